/-! from the cells made to the machine's world -/
def zaw (G : zG) (r m o q1 q2 q3 p1 p2 p3 p4 p5 p6 p7 p8 p9 p10 p11 : Nat) (a4 a5 a6 : Nat → Nat) (j k : Nat) : Nat := if j = 0 then [r, q1, q2, q3].getD k 0 else if j = 1 then [m, p1, p2, p3, p4, p5, p6, p7, p8, p9, p10, p11].getD k 0 else if j = 2 then o else if j = 3 then za G 3 k else if j = 4 then a4 k else if j = 5 then a5 k else a6 k
def zGw (G : zG) (a : Nat → Nat → Nat) : zG := (z0 G, zD G, a, zc G, zxs G, zLn G)
section BR
variable {G : zG} {a : Nat → Nat → Nat}
theorem zw_at4 : ∀ k, k < 56 → (za (zGw G a) 4 k, zen (zGw G a) (m0 4 k) ((zsh 4 k).getD (.inl (0, 0)))) = (a 4 k, zen (gA G (a 4)) (rw0 k) ((zwsh 4 k).getD (.inl (0, 0)))) := fun k hk => match k, hk with
  | 0, _ => rfl
  | 1, _ => rfl
  | 2, _ => rfl
  | 3, _ => rfl
  | 4, _ => rfl
  | 5, _ => rfl
  | 6, _ => rfl
  | 7, _ => rfl
  | 8, _ => rfl
  | 9, _ => rfl
  | 10, _ => rfl
  | 11, _ => rfl
  | 12, _ => rfl
  | 13, _ => rfl
  | 14, _ => rfl
  | 15, _ => rfl
  | 16, _ => rfl
  | 17, _ => rfl
  | 18, _ => rfl
  | 19, _ => rfl
  | 20, _ => rfl
  | 21, _ => rfl
  | 22, _ => rfl
  | 23, _ => rfl
  | 24, _ => rfl
  | 25, _ => rfl
  | 26, _ => rfl
  | 27, _ => rfl
  | 28, _ => rfl
  | 29, _ => rfl
  | 30, _ => rfl
  | 31, _ => rfl
  | 32, _ => rfl
  | 33, _ => rfl
  | 34, _ => rfl
  | 35, _ => rfl
  | 36, _ => rfl
  | 37, _ => rfl
  | 38, _ => rfl
  | 39, _ => rfl
  | 40, _ => rfl
  | 41, _ => rfl
  | 42, _ => rfl
  | 43, _ => rfl
  | 44, _ => rfl
  | 45, _ => rfl
  | 46, _ => rfl
  | 47, _ => rfl
  | 48, _ => rfl
  | 49, _ => rfl
  | 50, _ => rfl
  | 51, _ => rfl
  | 52, _ => rfl
  | 53, _ => rfl
  | 54, _ => rfl
  | 55, _ => rfl
  | n + 56, h => absurd h (by omega)
theorem zw_bl4 : ((List.range 56).map (fun k => (4, k))).map (fun q => (za (zGw G a) q.1 q.2, zen (zGw G a) (m0 q.1 q.2) ((zsh q.1 q.2).getD (.inl (0, 0))))) = cWl G (a 4) := by
  rw [List.map_map]
  unfold cWl
  exact List.map_congr_left (fun k hk => zw_at4 k (List.mem_range.mp hk))
theorem zw_at5 : ∀ k, k < 56 → (za (zGw G a) 5 k, zen (zGw G a) (m0 5 k) ((zsh 5 k).getD (.inl (0, 0)))) = (a 5 k, zen (gA G (a 5)) (rw0 k) ((zwsh 4 k).getD (.inl (0, 0)))) := fun k hk => match k, hk with
  | 0, _ => rfl
  | 1, _ => rfl
  | 2, _ => rfl
  | 3, _ => rfl
  | 4, _ => rfl
  | 5, _ => rfl
  | 6, _ => rfl
  | 7, _ => rfl
  | 8, _ => rfl
  | 9, _ => rfl
  | 10, _ => rfl
  | 11, _ => rfl
  | 12, _ => rfl
  | 13, _ => rfl
  | 14, _ => rfl
  | 15, _ => rfl
  | 16, _ => rfl
  | 17, _ => rfl
  | 18, _ => rfl
  | 19, _ => rfl
  | 20, _ => rfl
  | 21, _ => rfl
  | 22, _ => rfl
  | 23, _ => rfl
  | 24, _ => rfl
  | 25, _ => rfl
  | 26, _ => rfl
  | 27, _ => rfl
  | 28, _ => rfl
  | 29, _ => rfl
  | 30, _ => rfl
  | 31, _ => rfl
  | 32, _ => rfl
  | 33, _ => rfl
  | 34, _ => rfl
  | 35, _ => rfl
  | 36, _ => rfl
  | 37, _ => rfl
  | 38, _ => rfl
  | 39, _ => rfl
  | 40, _ => rfl
  | 41, _ => rfl
  | 42, _ => rfl
  | 43, _ => rfl
  | 44, _ => rfl
  | 45, _ => rfl
  | 46, _ => rfl
  | 47, _ => rfl
  | 48, _ => rfl
  | 49, _ => rfl
  | 50, _ => rfl
  | 51, _ => rfl
  | 52, _ => rfl
  | 53, _ => rfl
  | 54, _ => rfl
  | 55, _ => rfl
  | n + 56, h => absurd h (by omega)
theorem zw_bl5 : ((List.range 56).map (fun k => (5, k))).map (fun q => (za (zGw G a) q.1 q.2, zen (zGw G a) (m0 q.1 q.2) ((zsh q.1 q.2).getD (.inl (0, 0))))) = cWl G (a 5) := by
  rw [List.map_map]
  unfold cWl
  exact List.map_congr_left (fun k hk => zw_at5 k (List.mem_range.mp hk))
theorem zw_at6 : ∀ k, k < 56 → (za (zGw G a) 6 k, zen (zGw G a) (m0 6 k) ((zsh 6 k).getD (.inl (0, 0)))) = (a 6 k, zen (gA G (a 6)) (rw0 k) ((zwsh 4 k).getD (.inl (0, 0)))) := fun k hk => match k, hk with
  | 0, _ => rfl
  | 1, _ => rfl
  | 2, _ => rfl
  | 3, _ => rfl
  | 4, _ => rfl
  | 5, _ => rfl
  | 6, _ => rfl
  | 7, _ => rfl
  | 8, _ => rfl
  | 9, _ => rfl
  | 10, _ => rfl
  | 11, _ => rfl
  | 12, _ => rfl
  | 13, _ => rfl
  | 14, _ => rfl
  | 15, _ => rfl
  | 16, _ => rfl
  | 17, _ => rfl
  | 18, _ => rfl
  | 19, _ => rfl
  | 20, _ => rfl
  | 21, _ => rfl
  | 22, _ => rfl
  | 23, _ => rfl
  | 24, _ => rfl
  | 25, _ => rfl
  | 26, _ => rfl
  | 27, _ => rfl
  | 28, _ => rfl
  | 29, _ => rfl
  | 30, _ => rfl
  | 31, _ => rfl
  | 32, _ => rfl
  | 33, _ => rfl
  | 34, _ => rfl
  | 35, _ => rfl
  | 36, _ => rfl
  | 37, _ => rfl
  | 38, _ => rfl
  | 39, _ => rfl
  | 40, _ => rfl
  | 41, _ => rfl
  | 42, _ => rfl
  | 43, _ => rfl
  | 44, _ => rfl
  | 45, _ => rfl
  | 46, _ => rfl
  | 47, _ => rfl
  | 48, _ => rfl
  | 49, _ => rfl
  | 50, _ => rfl
  | 51, _ => rfl
  | 52, _ => rfl
  | 53, _ => rfl
  | 54, _ => rfl
  | 55, _ => rfl
  | n + 56, h => absurd h (by omega)
theorem zw_bl6 : ((List.range 56).map (fun k => (6, k))).map (fun q => (za (zGw G a) q.1 q.2, zen (zGw G a) (m0 q.1 q.2) ((zsh q.1 q.2).getD (.inl (0, 0))))) = cWl G (a 6) := by
  rw [List.map_map]
  unfold cWl
  exact List.map_congr_left (fun k hk => zw_at6 k (List.mem_range.mp hk))
theorem zw_all {r m o q1 q2 q3 p1 p2 p3 p4 p5 p6 p7 p8 p9 p10 p11 : Nat} {a4 a5 a6 : Nat → Nat} : zWS (zGw G (zaw G r m o q1 q2 q3 p1 p2 p3 p4 p5 p6 p7 p8 p9 p10 p11 a4 a5 a6)) m0 = ((((cT G r q1 q2 q3 (a4 0) (a5 0) (a6 0) ++ cMl G m p1 p2 p3 p4 p5 p6 p7 p8 p9 p10 p11) ++ [(o, .inl (zc G 3, 1, .inr (.inl fun _ => 0)))]) ++ cWl G a4) ++ cWl G a5) ++ cWl G a6 := by
  unfold zWS zids
  rw [List.map_append, List.map_append, List.map_append, List.map_append, List.map_append, zw_bl4, zw_bl5, zw_bl6]
  rfl
theorem zw_perm {α : Type} {t w m : List α} : (((t ++ w) ++ m)).Perm ((t ++ m) ++ w) := by
  rw [List.append_assoc, List.append_assoc]
  exact List.Perm.append_left t List.perm_append_comm
end BR
