set_option maxHeartbeats 4000000 in
set_option maxRecDepth 100000 in
theorem hr_p2 : (List.range 21).map (fun j => cC m00 S00 (71 + j)) = ((.inr (2, [.ref 5, .ref 32, .ref 72, .ref 74, .ref 75, .ref 76, .ref 77, .ref 78, .ref 79, .ref 80, .ref 81, .int 0, .int 0, .int 0, .int 0, .int 0, .int 0, .int 0, .int 0, .int 0])) :: [.inr (0, [.int 0, .int 0, .int 0, .ref 73]), z_arr 8, z_arr 8, z_arr 8, z_arr 6, z_arr 30, z_arr 8, z_arr 7, z_arr 7] ++ stC 81) ++ [lo1 90, q_cel 4 20 (qf 92 9 20)] := by rfl
set_option maxHeartbeats 4000000 in
set_option maxRecDepth 100000 in
theorem hr_p3 : (List.range 180).map (fun j => cC m00 S00 (92 + j)) = bkS stC 92 9 20 := by rfl
set_option maxHeartbeats 4000000 in
set_option maxRecDepth 100000 in
theorem hr_p4 : (List.range 2).map (fun j => cC m00 S00 (272 + j)) = [q_cel 5 4 (qf 274 27 4), z_boo 4] := by rfl
set_option maxHeartbeats 4000000 in
set_option maxRecDepth 100000 in
theorem hr_p6 : (List.range 108).map (fun j => cC m00 S00 (274 + j)) = bkS woC 274 27 4 := by rfl
theorem hr_q (a n b : Nat) (h : a + n = b) (l r : aH) (h1 : (List.range a).map (cC m00 S00) = l) (h2 : (List.range n).map (fun j => cC m00 S00 (a + j)) = r) : (List.range b).map (cC m00 S00) = l ++ r := by
  rw [← h, rg_split, h1, h2]
theorem hr_00 : hr m00 S00 = lnA ++ rfC 382 := by
  show (List.range 406).map _ = _
  rw [hr_q 382 24 406 rfl _ _ (hr_q 274 108 382 rfl _ _ (hr_q 272 2 274 rfl _ _ (hr_q 92 180 272 rfl _ _ (hr_q 71 21 92 rfl _ _ (hr_q 35 36 71 rfl _ _ hr_p0 hr_p1) hr_p2) hr_p3) hr_p4) hr_p6) hr_p5]
  unfold lnA ln101 lpH T90 T71 T32
  simp only [List.append_assoc, List.cons_append, List.nil_append]
