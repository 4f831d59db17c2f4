theorem fX3_isFull_e (n : Nat) (u : TQ) : fX3_isFull n u = (
  if (gQ_many u) < (Int32.ofNat n) then (
  0) else (
  1)) := by rw [fX3_isFull]
theorem fX3_wrapped_e (n : Nat) (u : TQ) (x1 : Int32) : fX3_wrapped n u x1 = (
  if (Int32.ofNat n) ≤ x1 then (
  (x1 - (Int32.ofNat n))) else (
  x1)) := by rw [fX3_wrapped]
theorem fX3_append_e (n : Nat) (u : TQ) (x1 : Int32) : fX3_append n u x1 = (
  pLet (fX3_wrapped n u ((gQ_start u) + (gQ_many u))) (fun z_1 =>
  pIn z_1 n (
  pLet (sQ_ring u (upd (gQ_ring u) (z_1).toNatClampNeg x1)) (fun u_3 =>
  pLet (sQ_many u_3 ((gQ_many u_3) + 1)) (fun u_4 =>
  some u_4))))) := by rw [fX3_append]
theorem fX3_first_e (n : Nat) (u : TQ) : fX3_first n u = (
  pIn (gQ_start u) n (
  some ((gQ_ring u) ((gQ_start u)).toNatClampNeg))) := by rw [fX3_first]
theorem fX3_takeFirst_e (n : Nat) (u : TQ) : fX3_takeFirst n u = (
  pIn (gQ_start u) n (
  pLet ((gQ_ring u) ((gQ_start u)).toNatClampNeg) (fun x_2 =>
  pLet (fX3_wrapped n u ((gQ_start u) + 1)) (fun z_3 =>
  pLet (sQ_start u z_3) (fun u_4 =>
  pLet (sQ_many u_4 ((gQ_many u_4) - 1)) (fun u_5 =>
  some (x_2, u_5))))))) := by rw [fX3_takeFirst]
theorem fX3_at_e (n : Nat) (u : TQ) (x1 : Int32) : fX3_at n u x1 = (
  pLet (fX3_wrapped n u ((gQ_start u) + x1)) (fun z_1 =>
  pIn z_1 n (
  some ((gQ_ring u) z_1.toNatClampNeg)))) := by rw [fX3_at]
theorem fX0_empty_e (u : TC) : fX0_empty u = (
  pB (fJ7_fill_53178 256 (gC_serial u) 0) (fun z_1 =>
  pLet (sC_serial u z_1) (fun u_2 =>
  pLet (sC_blocks u_2 0) (fun u_3 =>
  pLet (sC_filled u_3 0) (fun u_4 =>
  some u_4))))) := by rw [fX0_empty]
theorem fX0_isLinked_e (u : TC) (x1 : Int32) (x2 : Int32) : fX0_isLinked u x1 x2 = (
  if x1 = (-1) then (
  some 0) else (
  pB (fX0_has u x2) (fun z_2 =>
  if z_2 = 0 then (
  some 0) else (
  pIn x1 512 (
  pIn x2 256 (
  if ((gC_linkedSerial u) x1.toNatClampNeg) = ((gC_serial u) x2.toNatClampNeg) then (
  some 1) else (
  some 0))))))) := by rw [fX0_isLinked]
theorem fX0_decodeBlock_e (u : TC) (f0 : (Nat → Int32)) (x2 : Int32) : fX0_decodeBlock u f0 x2 = (
  fX0_decodeBlock_b8 fuelX0_decodeBlock_8 u f0 x2 x2 0 0) := by rw [fX0_decodeBlock]
theorem fX0_wordAt_e (u : TC) (x1 : Int32) (x2 : Int32) : fX0_wordAt u x1 x2 = (
  pIn ((x1 * 8) + x2) 2048 (
  some ((gC_code u) (((x1 * 8) + x2)).toNatClampNeg))) := by rw [fX0_wordAt]
theorem fX0_markDead_e (u : TC) (x1 : Int32) : fX0_markDead u x1 = (
  pIn x1 256 (
  pLet (((gC_length u) x1.toNatClampNeg) - 1) (fun x_2 =>
  fX0_markDead_b14 fuelX0_markDead_14 u x1 0 0 x_2))) := by rw [fX0_markDead]
theorem fX0_lastKind_e (u : TC) (x1 : Int32) : fX0_lastKind u x1 = (
  pIn x1 256 (
  if ((gC_length u) x1.toNatClampNeg) = 0 then (
  some 0) else (
  pIn x1 256 (
  pB (fX0_wordAt u x1 (((gC_length u) x1.toNatClampNeg) - 1)) (fun z_4 =>
  pLet (fX1_kind z_4) (fun z_5 =>
  some z_5)))))) := by rw [fX0_lastKind]
theorem fX0_sizeOf_e (u : TC) (x1 : Int32) : fX0_sizeOf u x1 = (
  pB (fX0_lastKind u x1) (fun z_1 =>
  pLet (fX1_leavesByItself z_1) (fun z_2 =>
  if z_2 = 0 then (
  fX0_sizeOf_b16 u x1 1) else (
  fX0_sizeOf_b16 u x1 0)))) := by rw [fX0_sizeOf]
theorem fX0_layExits_b112_e (u : TC) (x1 : Int32) (y0 : Int32) (y1 : Int32) : fX0_layExits_b112 u x1 y0 y1 = (
  pIn y1 512 (
  pLet (sC_exitPlace u (upd (gC_exitPlace u) (y1).toNatClampNeg y0)) (fun u_2 =>
  pIn (2 * x1) 512 (
  pLet (sC_linkedSerial u_2 (upd (gC_linkedSerial u_2) ((2 * x1)).toNatClampNeg 0)) (fun u_4 =>
  pIn ((2 * x1) + 1) 512 (
  pLet (sC_linkedSerial u_4 (upd (gC_linkedSerial u_4) (((2 * x1) + 1)).toNatClampNeg 0)) (fun u_6 =>
  some u_6))))))) := by rw [fX0_layExits_b112]
theorem fX0_layExits_b87_e (u : TC) (x1 : Int32) (x5 : Int32) (y0 : Int32) (y1 : Int32) : fX0_layExits_b87 u x1 x5 y0 y1 = (
  pIn y1 512 (
  pLet (sC_exitPlace u (upd (gC_exitPlace u) (y1).toNatClampNeg y0)) (fun u_2 =>
  if x5 = 0 then (
  fX0_layExits_b112 u_2 x1 (-1) ((2 * x1) + 1)) else (
  pIn x1 256 (
  fX0_layExits_b112 u_2 x1 ((gC_behind u_2) x1.toNatClampNeg) ((2 * x1) + 1)))))) := by rw [fX0_layExits_b87]
theorem fX0_layExits_b65_e (u : TC) (x1 : Int32) (x2 : Int32) (x4 : Int32) (y0 : Int32) : fX0_layExits_b65 u x1 x2 x4 y0 = (
  if x4 = 0 then (
  fX0_layExits_b87 u x1 y0 (-1) (2 * x1)) else (
  pLet (fX1_n x2) (fun z_2 =>
  fX0_layExits_b87 u x1 y0 z_2 (2 * x1)))) := by rw [fX0_layExits_b65]
theorem fX0_layExits_b60_e (u : TC) (x1 : Int32) (x2 : Int32) (x4 : Int32) : fX0_layExits_b60 u x1 x2 x4 = (
  fX0_layExits_b65 u x1 x2 x4 1) := by rw [fX0_layExits_b60]
theorem fX0_layExits_b39_e (u : TC) (x1 : Int32) (x2 : Int32) (x3 : Int32) (y0 : Int32) : fX0_layExits_b39 u x1 x2 x3 y0 = (
  if x3 = 24 then (
  fX0_layExits_b60 u x1 x2 y0) else (
  if x3 = 29 then (
  fX0_layExits_b60 u x1 x2 y0) else (
  pLet (fX1_leavesByItself x3) (fun z_3 =>
  if z_3 = 0 then (
  fX0_layExits_b60 u x1 x2 y0) else (
  fX0_layExits_b65 u x1 x2 y0 0))))) := by rw [fX0_layExits_b39]
theorem fX0_layExits_b38_e (u : TC) (x1 : Int32) (x2 : Int32) (x3 : Int32) : fX0_layExits_b38 u x1 x2 x3 = (
  fX0_layExits_b39 u x1 x2 x3 0) := by rw [fX0_layExits_b38]
theorem fX0_layExits_e (u : TC) (x1 : Int32) : fX0_layExits u x1 = (
  pIn x1 256 (
  pB (fX0_wordAt u x1 (((gC_length u) x1.toNatClampNeg) - 1)) (fun z_2 =>
  pLet (fX1_kind z_2) (fun z_3 =>
  pLet (fX1_leavesByItself z_3) (fun z_4 =>
  if z_4 = 0 then (
  fX0_layExits_b38 u x1 z_2 z_3) else (
  pLet (fX1_bytes z_3) (fun z_6 =>
  if z_6 = 2 then (
  fX0_layExits_b39 u x1 z_2 z_3 1) else (
  fX0_layExits_b38 u x1 z_2 z_3)))))))) := by rw [fX0_layExits]
theorem fX0_translate_b79_e (u : TC) (f0 : (Nat → Int32)) (x2 : Int32) (x3 : Int32) : fX0_translate_b79 u f0 x2 x3 = (
  pLet (sC_translated u ((gC_translated u) + 1)) (fun u_1 =>
  pLet (sC_deadFlags u_1 ((gC_deadFlags u_1) + x3)) (fun u_2 =>
  pIn x2 256 (
  pLet (sC_serial u_2 (upd (gC_serial u_2) (x2).toNatClampNeg (gC_translated u_2))) (fun u_4 =>
  pLet (sC_blocks u_4 ((gC_blocks u_4) + 1)) (fun u_5 =>
  pIn x2 256 (
  pLet (sC_filled u_5 ((gC_filled u_5) + ((gC_size u_5) x2.toNatClampNeg))) (fun u_7 =>
  pB (fX0_layExits u_7 x2) (fun z_8 =>
  some (1, z_8)))))))))) := by rw [fX0_translate_b79]
theorem fX0_translate_e (u : TC) (f0 : (Nat → Int32)) (x2 : Int32) : fX0_translate u f0 x2 = (
  pB (fX0_decodeBlock u f0 x2) (fun z_1 =>
  pB (fX0_markDead z_1 x2) (fun z_2 =>
  pB (fX0_sizeOf z_2.2 x2) (fun z_3 =>
  pIn x2 256 (
  pLet (sC_size z_2.2 (upd (gC_size z_2.2) (x2).toNatClampNeg z_3)) (fun u_5 =>
  pIn x2 256 (
  if ((gC_length u_5) x2.toNatClampNeg) = 0 then (
  some (0, u_5)) else (
  pIn x2 256 (
  if ((gC_size u_5) x2.toNatClampNeg) ≤ (gC_limit u_5) then (
  pIn x2 256 (
  if ((gC_filled u_5) + ((gC_size u_5) x2.toNatClampNeg)) ≤ (gC_limit u_5) then (
  fX0_translate_b79 u_5 f0 x2 z_2.1) else (
  pB (fX0_empty u_5) (fun z_12 =>
  pLet (sC_flushes z_12 ((gC_flushes z_12) + 1)) (fun u_13 =>
  fX0_translate_b79 u_13 f0 x2 z_2.1))))) else (
  some (0, u_5))))))))))) := by rw [fX0_translate]
theorem fX0_link_e (u : TC) (x1 : Int32) (x2 : Int32) : fX0_link u x1 x2 = (
  if x1 = (-1) then (
  some u) else (
  pB (fX0_has u (x1 / 2)) (fun z_2 =>
  if z_2 = 0 then (
  some u) else (
  pIn x2 256 (
  pIn x1 512 (
  pLet (sC_linkedSerial u (upd (gC_linkedSerial u) (x1).toNatClampNeg ((gC_serial u) x2.toNatClampNeg))) (fun u_6 =>
  some u_6))))))) := by rw [fX0_link]
theorem fX0_exitTo_e (u : TC) (x1 : Int32) (x2 : Int32) : fX0_exitTo u x1 x2 = (
  pIn (2 * x1) 512 (
  if ((gC_exitPlace u) ((2 * x1)).toNatClampNeg) = x2 then (
  some (2 * x1)) else (
  pIn ((2 * x1) + 1) 512 (
  if ((gC_exitPlace u) (((2 * x1) + 1)).toNatClampNeg) = x2 then (
  some ((2 * x1) + 1)) else (
  some (-1)))))) := by rw [fX0_exitTo]
theorem fX2_write_e (u : TG) (x1 : Int32) (x2 : Int32) : fX2_write u x1 x2 = (
  pIn x1 256 (
  pLet (sG_memory u (upd (gG_memory u) (x1).toNatClampNeg x2)) (fun u_2 =>
  pLet (sG_written u_2 x1) (fun u_3 =>
  some u_3)))) := by rw [fX2_write]
theorem fX2_push_e (u : TG) (x1 : Int32) : fX2_push u x1 = (
  pIn (4 : Int32) 10 (
  pIn (4 : Int32) 10 (
  pLet (sG_state u (upd (gG_state u) ((4 : Int32)).toNatClampNeg ((((gG_state u) ((4 : Int32)).toNatClampNeg) - 1) &&& 255))) (fun u_3 =>
  pIn (4 : Int32) 10 (
  pB (fX2_write u_3 ((gG_state u_3) ((4 : Int32)).toNatClampNeg) x1) (fun z_5 =>
  some z_5)))))) := by rw [fX2_push]
theorem fX2_interrupt_e (u : TG) : fX2_interrupt u = (
  pIn (8 : Int32) 10 (
  pLet (sG_state u (upd (gG_state u) ((8 : Int32)).toNatClampNeg 0)) (fun u_2 =>
  pIn (9 : Int32) 10 (
  pB (fX2_push u_2 ((gG_state u_2) ((9 : Int32)).toNatClampNeg)) (fun z_4 =>
  pIn (9 : Int32) 10 (
  pLet (sG_state z_4 (upd (gG_state z_4) ((9 : Int32)).toNatClampNeg 240)) (fun u_6 =>
  some u_6))))))) := by rw [fX2_interrupt]
theorem fX2_resultWithCarry_e (u : TG) (x1 : Int32) (x2 : Int32) (x3 : Int32) : fX2_resultWithCarry u x1 x2 x3 = (
  if x1 = 7 then (
  some (x2 + x3)) else (
  if x1 = 8 then (
  pIn (6 : Int32) 10 (
  some ((x2 + x3) + ((gG_state u) ((6 : Int32)).toNatClampNeg)))) else (
  if x1 = 11 then (
  some (x2 &&& x3)) else (
  if x1 = 12 then (
  some (x2 ^^^ x3)) else (
  if x1 = 13 then (
  some ((x2 : Int32) <<< ((1 : Int32) &&& 31))) else (
  if x1 = 14 then (
  some (((x2 : Int32) >>> ((1 : Int32) &&& 31)) ||| (((x2 &&& 1) : Int32) <<< ((8 : Int32) &&& 31)))) else (
  if x1 = 15 then (
  pIn (6 : Int32) 10 (
  some (((x2 : Int32) <<< ((1 : Int32) &&& 31)) ||| ((gG_state u) ((6 : Int32)).toNatClampNeg)))) else (
  if x1 = 16 then (
  pIn (6 : Int32) 10 (
  some ((((x2 : Int32) >>> ((1 : Int32) &&& 31)) ||| ((((gG_state u) ((6 : Int32)).toNatClampNeg) : Int32) <<< ((7 : Int32) &&& 31))) ||| (((x2 &&& 1) : Int32) <<< ((8 : Int32) &&& 31))))) else (
  if x1 = 18 then (
  some (x2 + x3)) else (
  if x1 = 20 then (
  some (x2 ^^^ x3)) else (
  some (x2 - x3)))))))))))) := by rw [fX2_resultWithCarry]
theorem fX2_makeFlags_b18_e (u : TG) (x1 : Int32) (y0 : Int32) (y1 : Int32) : fX2_makeFlags_b18 u x1 y0 y1 = (
  pIn y1 10 (
  pLet (sG_state u (upd (gG_state u) (y1).toNatClampNeg y0)) (fun u_2 =>
  pIn (6 : Int32) 10 (
  pLet (sG_state u_2 (upd (gG_state u_2) ((6 : Int32)).toNatClampNeg (((x1 : Int32) >>> ((8 : Int32) &&& 31)) &&& 1))) (fun u_4 =>
  pIn (7 : Int32) 10 (
  pLet (sG_state u_4 (upd (gG_state u_4) ((7 : Int32)).toNatClampNeg (((x1 : Int32) >>> ((7 : Int32) &&& 31)) &&& 1))) (fun u_6 =>
  some u_6))))))) := by rw [fX2_makeFlags_b18]
theorem fX2_makeFlags_e (u : TG) (x1 : Int32) : fX2_makeFlags u x1 = (
  if (x1 &&& 255) = 0 then (
  fX2_makeFlags_b18 u x1 1 5) else (
  fX2_makeFlags_b18 u x1 0 5)) := by rw [fX2_makeFlags]
theorem fX2_calculate_b89_e (u : TG) (x3 : Int32) (x7 : Int32) : fX2_calculate_b89 u x3 x7 = (
  if x3 = 0 then (
  pB (fX2_makeFlags u x7) (fun z_2 =>
  some z_2)) else (
  some u)) := by rw [fX2_calculate_b89]
theorem fX2_calculate_b56_e (u : TG) (x1 : Int32) (x2 : Int32) (x3 : Int32) (x4 : Int32) (x5 : Int32) (y0 : Int32) : fX2_calculate_b56 u x1 x2 x3 x4 x5 y0 = (
  pB (fX2_resultWithCarry u x1 x5 y0) (fun z_1 =>
  if x4 = 0 then (
  pLet (fX1_d x2) (fun z_3 =>
  pIn z_3 10 (
  pLet (sG_state u (upd (gG_state u) (z_3).toNatClampNeg (z_1 &&& 255))) (fun u_5 =>
  fX2_calculate_b89 u_5 x3 z_1)))) else (
  fX2_calculate_b89 u x3 z_1))) := by rw [fX2_calculate_b56]
theorem fX2_calculate_b21_e (u : TG) (x1 : Int32) (x2 : Int32) (x3 : Int32) (x4 : Int32) : fX2_calculate_b21 u x1 x2 x3 x4 = (
  pLet (fX1_d x2) (fun z_1 =>
  pIn z_1 10 (
  pLet ((gG_state u) z_1.toNatClampNeg) (fun x_3 =>
  pLet (fX1_bytes x1) (fun z_4 =>
  if z_4 = 2 then (
  pLet (fX1_n x2) (fun z_8 =>
  fX2_calculate_b56 u x1 x2 x3 x4 x_3 z_8)) else (
  pLet (fX1_s x2) (fun z_6 =>
  pIn z_6 10 (
  fX2_calculate_b56 u x1 x2 x3 x4 x_3 ((gG_state u) z_6.toNatClampNeg))))))))) := by rw [fX2_calculate_b21]
theorem fX2_calculate_e (u : TG) (x1 : Int32) (x2 : Int32) : fX2_calculate u x1 x2 = (
  pLet (fX1_isDead x2) (fun z_1 =>
  pLet (fX1_onlyCompares x1) (fun z_2 =>
  if z_1 = 0 then (
  fX2_calculate_b21 u x1 x2 z_1 z_2) else (
  if z_2 = 0 then (
  fX2_calculate_b21 u x1 x2 z_1 z_2) else (
  some u))))) := by rw [fX2_calculate]
theorem fX2_jumpIf_b21_e (u : TG) (x1 : Int32) (x2 : Int32) (y0 : Int32) : fX2_jumpIf_b21 u x1 x2 y0 = (
  pIn y0 10 (
  if ((gG_state u) y0.toNatClampNeg) = (x1 &&& 1) then (
  pIn (9 : Int32) 10 (
  pLet (sG_state u (upd (gG_state u) ((9 : Int32)).toNatClampNeg x2)) (fun u_4 =>
  some u_4))) else (
  some u))) := by rw [fX2_jumpIf_b21]
theorem fX2_jumpIf_e (u : TG) (x1 : Int32) (x2 : Int32) : fX2_jumpIf u x1 x2 = (
  if 2 < x1 then (
  if 4 < x1 then (
  fX2_jumpIf_b21 u x1 x2 7) else (
  fX2_jumpIf_b21 u x1 x2 6)) else (
  fX2_jumpIf_b21 u x1 x2 5)) := by rw [fX2_jumpIf]
theorem fX2_pop_e (u : TG) : fX2_pop u = (
  pIn (4 : Int32) 10 (
  pIn ((gG_state u) ((4 : Int32)).toNatClampNeg) 256 (
  pLet ((gG_memory u) (((gG_state u) ((4 : Int32)).toNatClampNeg)).toNatClampNeg) (fun x_3 =>
  pIn (4 : Int32) 10 (
  pIn (4 : Int32) 10 (
  pLet (sG_state u (upd (gG_state u) ((4 : Int32)).toNatClampNeg ((((gG_state u) ((4 : Int32)).toNatClampNeg) + 1) &&& 255))) (fun u_6 =>
  some (x_3, u_6)))))))) := by rw [fX2_pop]
theorem fX2_countDown_e (u : TG) (x1 : Int32) (x2 : Int32) : fX2_countDown u x1 x2 = (
  pIn x1 10 (
  pIn x1 10 (
  pLet (sG_state u (upd (gG_state u) (x1).toNatClampNeg ((((gG_state u) x1.toNatClampNeg) - 1) &&& 255))) (fun u_3 =>
  pIn x1 10 (
  if ((gG_state u_3) x1.toNatClampNeg) = 0 then (
  some u_3) else (
  pIn (9 : Int32) 10 (
  pLet (sG_state u_3 (upd (gG_state u_3) ((9 : Int32)).toNatClampNeg x2)) (fun u_7 =>
  some u_7)))))))) := by rw [fX2_countDown]
theorem fX2_steer_e (u : TG) (x1 : Int32) (x2 : Int32) : fX2_steer u x1 x2 = (
  if x1 = 4 then (
  pIn (8 : Int32) 10 (
  pLet (sG_state u (upd (gG_state u) ((8 : Int32)).toNatClampNeg 1)) (fun u_2 =>
  some u_2))) else (
  if x1 = 23 then (
  pLet (fX1_n x2) (fun z_4 =>
  pIn (9 : Int32) 10 (
  pLet (sG_state u (upd (gG_state u) ((9 : Int32)).toNatClampNeg z_4)) (fun u_6 =>
  some u_6)))) else (
  if x1 = 24 then (
  pLet (fX1_w x2) (fun z_8 =>
  pLet (fX1_n x2) (fun z_9 =>
  pB (fX2_jumpIf u z_8 z_9) (fun z_10 =>
  some z_10)))) else (
  if x1 = 25 then (
  pIn (9 : Int32) 10 (
  pB (fX2_push u ((gG_state u) ((9 : Int32)).toNatClampNeg)) (fun z_13 =>
  pLet (fX1_n x2) (fun z_14 =>
  pIn (9 : Int32) 10 (
  pLet (sG_state z_13 (upd (gG_state z_13) ((9 : Int32)).toNatClampNeg z_14)) (fun u_16 =>
  some u_16)))))) else (
  if x1 = 26 then (
  pB (fX2_pop u) (fun z_18 =>
  pIn (9 : Int32) 10 (
  pLet (sG_state z_18.2 (upd (gG_state z_18.2) ((9 : Int32)).toNatClampNeg z_18.1)) (fun u_20 =>
  some u_20)))) else (
  if x1 = 29 then (
  pLet (fX1_d x2) (fun z_22 =>
  pLet (fX1_n x2) (fun z_23 =>
  pB (fX2_countDown u z_22 z_23) (fun z_24 =>
  some z_24)))) else (
  some u))))))) := by rw [fX2_steer]
theorem fX2_give_b26_e (u : TG) : fX2_give_b26 u = (
  pLet (sG_given u ((gG_given u) + 1)) (fun u_1 =>
  some u_1)) := by rw [fX2_give_b26]
theorem fX2_give_e (u : TG) (x1 : Int32) : fX2_give u x1 = (
  if (gG_given u) < 0 then (
  fX2_give_b26 u) else (
  if 100 ≤ (gG_given u) then (
  fX2_give_b26 u) else (
  pIn (gG_given u) 100 (
  pLet (sG_outputs u (upd (gG_outputs u) ((gG_given u)).toNatClampNeg x1)) (fun u_4 =>
  fX2_give_b26 u_4))))) := by rw [fX2_give]
theorem fX2_move_b187_e (u : TG) (y0 : Int32) (y1 : Int32) : fX2_move_b187 u y0 y1 = (
  pIn y1 10 (
  pLet (sG_state u (upd (gG_state u) (y1).toNatClampNeg y0)) (fun u_2 =>
  some u_2))) := by rw [fX2_move_b187]
theorem fX2_move_e (u : TG) (x1 : Int32) (x2 : Int32) : fX2_move u x1 x2 = (
  pLet (fX1_d x2) (fun z_1 =>
  pLet (fX1_s x2) (fun z_2 =>
  pIn z_2 10 (
  pLet (fX1_n x2) (fun z_4 =>
  pLet ((((gG_state u) z_2.toNatClampNeg) + z_4) &&& 255) (fun x_5 =>
  if x1 = 2 then (
  pIn (0 : Int32) 10 (
  pB (fX2_give u ((gG_state u) ((0 : Int32)).toNatClampNeg)) (fun z_7 =>
  some z_7))) else (
  if x1 = 3 then (
  if (gQ_many (gG_inputs u)) = 0 then (
  fX2_move_b187 u 0 0) else (
  pB (fX3_takeFirst 32 (gG_inputs u)) (fun z_10 =>
  pLet (sG_inputs u z_10.2) (fun u_11 =>
  fX2_move_b187 u_11 z_10.1 0)))) else (
  if x1 = 5 then (
  pIn (8 : Int32) 10 (
  pLet (sG_state u (upd (gG_state u) ((8 : Int32)).toNatClampNeg 0)) (fun u_14 =>
  some u_14))) else (
  if x1 = 6 then (
  pLet (fX1_s x2) (fun z_16 =>
  pIn z_16 10 (
  pIn z_1 10 (
  pLet (sG_state u (upd (gG_state u) (z_1).toNatClampNeg ((gG_state u) z_16.toNatClampNeg))) (fun u_19 =>
  some u_19))))) else (
  if x1 = 17 then (
  pLet (fX1_n x2) (fun z_21 =>
  pIn z_1 10 (
  pLet (sG_state u (upd (gG_state u) (z_1).toNatClampNeg z_21)) (fun u_23 =>
  some u_23)))) else (
  if x1 = 21 then (
  pIn x_5 256 (
  pIn z_1 10 (
  pLet (sG_state u (upd (gG_state u) (z_1).toNatClampNeg ((gG_memory u) x_5.toNatClampNeg))) (fun u_27 =>
  some u_27)))) else (
  if x1 = 22 then (
  pIn z_1 10 (
  pB (fX2_write u x_5 ((gG_state u) z_1.toNatClampNeg)) (fun z_30 =>
  some z_30))) else (
  if x1 = 27 then (
  pIn z_1 10 (
  pB (fX2_push u ((gG_state u) z_1.toNatClampNeg)) (fun z_33 =>
  some z_33))) else (
  if x1 = 28 then (
  pB (fX2_pop u) (fun z_35 =>
  pIn z_1 10 (
  pLet (sG_state z_35.2 (upd (gG_state z_35.2) (z_1).toNatClampNeg z_35.1)) (fun u_37 =>
  some u_37)))) else (
  some u))))))))))))))) := by rw [fX2_move]
theorem fX2_execute_e (u : TG) (x1 : Int32) : fX2_execute u x1 = (
  pLet (fX1_kind x1) (fun z_1 =>
  pIn (9 : Int32) 10 (
  pLet (fX1_bytes z_1) (fun z_3 =>
  pIn (9 : Int32) 10 (
  pLet (sG_state u (upd (gG_state u) ((9 : Int32)).toNatClampNeg ((((gG_state u) ((9 : Int32)).toNatClampNeg) + z_3) &&& 255))) (fun u_5 =>
  pLet (fX1_makesFlags z_1) (fun z_6 =>
  if z_6 = 0 then (
  pLet (fX1_endsBlock z_1) (fun z_8 =>
  if z_8 = 0 then (
  pB (fX2_move u_5 z_1 x1) (fun z_10 =>
  some z_10)) else (
  pB (fX2_steer u_5 z_1 x1) (fun z_11 =>
  some z_11)))) else (
  pB (fX2_calculate u_5 z_1 x1) (fun z_12 =>
  some z_12))))))))) := by rw [fX2_execute]
theorem fX2_outputAt_e (u : TG) (x1 : Int32) : fX2_outputAt u x1 = (
  if x1 < 0 then (
  some (-1)) else (
  if (gG_given u) ≤ x1 then (
  some (-1)) else (
  if 100 ≤ x1 then (
  some (-1)) else (
  pIn x1 100 (
  some ((gG_outputs u) x1.toNatClampNeg)))))) := by rw [fX2_outputAt]
theorem fX4_isByte_e (x0 : Int32) : fX4_isByte x0 = (
  if x0 < 0 then (
  0) else (
  if 255 < x0 then (
  0) else (
  1))) := by rw [fX4_isByte]
theorem fX4_poke_b17_e (u : TB) : fX4_poke_b17 u = (
  some (1, u)) := by rw [fX4_poke_b17]
theorem fX4_poke_e (u : TB) (x1 : Int32) (x2 : Int32) (x3 : Int32) : fX4_poke u x1 x2 x3 = (
  pLet (fX4_isByte x1) (fun z_1 =>
  if z_1 = 0 then (
  fX4_poke_b17 u) else (
  if x3 < 1 then (
  fX4_poke_b17 u) else (
  if x3 ≤ 4 then (
  fX4_poke_b28 fuelX4_poke_28 u x1 x2 x3 0) else (
  fX4_poke_b17 u))))) := by rw [fX4_poke]
theorem fX4_peek_e (u : TB) (x1 : Int32) : fX4_peek u x1 = (
  pLet (fX4_isByte x1) (fun z_1 =>
  if z_1 = 0 then (
  some (1, 0)) else (
  pIn x1 256 (
  some (0, ((gG_memory (gB_guest u)) x1.toNatClampNeg)))))) := by rw [fX4_peek]
theorem fX4_isState_e (x0 : Int32) : fX4_isState x0 = (
  if x0 < 0 then (
  0) else (
  if 9 < x0 then (
  0) else (
  1))) := by rw [fX4_isState]
theorem fX4_isOneBit_e (x0 : Int32) : fX4_isOneBit x0 = (
  if x0 < 5 then (
  0) else (
  if 8 < x0 then (
  0) else (
  1))) := by rw [fX4_isOneBit]
theorem fX4_set_b26_e (u : TB) : fX4_set_b26 u = (
  some (1, u)) := by rw [fX4_set_b26]
theorem fX4_set_b34_e (u : TB) (x1 : Int32) (x2 : Int32) : fX4_set_b34 u x1 x2 = (
  pIn x1 10 (
  pLet (sB_guest u (sG_state (gB_guest u) (upd (gG_state (gB_guest u)) (x1).toNatClampNeg x2))) (fun u_2 =>
  some (0, u_2)))) := by rw [fX4_set_b34]
theorem fX4_set_e (u : TB) (x1 : Int32) (x2 : Int32) : fX4_set u x1 x2 = (
  pLet (fX4_isState x1) (fun z_1 =>
  if z_1 = 0 then (
  fX4_set_b26 u) else (
  pLet (fX4_isByte x2) (fun z_3 =>
  if z_3 = 0 then (
  fX4_set_b26 u) else (
  pLet (fX4_isOneBit x1) (fun z_5 =>
  if z_5 = 0 then (
  fX4_set_b34 u x1 x2) else (
  if x2 ≤ 1 then (
  fX4_set_b34 u x1 x2) else (
  fX4_set_b26 u)))))))) := by rw [fX4_set]
theorem fX4_get_e (u : TB) (x1 : Int32) : fX4_get u x1 = (
  pLet (fX4_isState x1) (fun z_1 =>
  if z_1 = 0 then (
  some (1, 0)) else (
  pIn x1 10 (
  some (0, ((gG_state (gB_guest u)) x1.toNatClampNeg)))))) := by rw [fX4_get]
theorem fX4_input_e (u : TB) (x1 : Int32) : fX4_input u x1 = (
  pLet (fX4_isByte x1) (fun z_1 =>
  if z_1 = 0 then (
  some (1, 0, u)) else (
  pLet (fX3_isFull 32 (gG_inputs (gB_guest u))) (fun z_3 =>
  if z_3 = 0 then (
  pB (fX3_append 32 (gG_inputs (gB_guest u)) x1) (fun z_5 =>
  pLet (sB_guest u (sG_inputs (gB_guest u) z_5)) (fun u_6 =>
  some (0, (gQ_many (gG_inputs (gB_guest u_6))), u_6)))) else (
  some (2, 0, u)))))) := by rw [fX4_input]
theorem fX4_request_b16_e (u : TB) : fX4_request_b16 u = (
  some (1, 0, u)) := by rw [fX4_request_b16]
theorem fX4_request_e (u : TB) (x1 : Int32) : fX4_request u x1 = (
  if x1 ≤ (gB_latestRequest u) then (
  fX4_request_b16 u) else (
  if (gB_executed u) ≤ x1 then (
  pLet (fX3_isFull 16 (gB_requests u)) (fun z_3 =>
  if z_3 = 0 then (
  pB (fX3_append 16 (gB_requests u) x1) (fun z_5 =>
  pLet (sB_requests u z_5) (fun u_6 =>
  pLet (sB_latestRequest u_6 x1) (fun u_7 =>
  some (0, (gQ_many (gB_requests u_7)), u_7))))) else (
  some (2, 0, u)))) else (
  fX4_request_b16 u))) := by rw [fX4_request]
theorem fX4_room_b12_e (u : TB) : fX4_room_b12 u = (
  some (1, u)) := by rw [fX4_room_b12]
theorem fX4_room_e (u : TB) (x1 : Int32) : fX4_room u x1 = (
  if x1 < 1 then (
  fX4_room_b12 u) else (
  if x1 ≤ 400 then (
  pLet (sB_cache u (sC_limit (gB_cache u) x1)) (fun u_3 =>
  pB (fX0_empty (gB_cache u_3)) (fun z_4 =>
  pLet (sB_cache u_3 z_4) (fun u_5 =>
  some (0, u_5))))) else (
  fX4_room_b12 u))) := by rw [fX4_room]
theorem fX4_dropWritten_e (u : TB) : fX4_dropWritten u = (
  if (gG_written (gB_guest u)) = (-1) then (
  some u) else (
  pB (fX0_dropPage (gB_cache u) ((gG_written (gB_guest u)) / 32)) (fun z_2 =>
  pLet (sB_cache u z_2.2) (fun u_3 =>
  pLet (sB_invalidated u_3 ((gB_invalidated u) + z_2.1)) (fun u_4 =>
  pLet (sB_guest u_4 (sG_written (gB_guest u_4) (-1))) (fun u_5 =>
  some u_5)))))) := by rw [fX4_dropWritten]
theorem fX4_interruptIfDue_e (u : TB) : fX4_interruptIfDue u = (
  pIn (8 : Int32) 10 (
  if ((gG_state (gB_guest u)) ((8 : Int32)).toNatClampNeg) = 0 then (
  some u) else (
  if (gQ_many (gB_requests u)) = 0 then (
  some u) else (
  pB (fX3_first 16 (gB_requests u)) (fun z_4 =>
  if z_4 ≤ (gB_executed u) then (
  pB (fX3_takeFirst 16 (gB_requests u)) (fun z_6 =>
  pLet (sB_requests u z_6.2) (fun u_7 =>
  pLet (sB_interrupts u_7 ((gB_interrupts u_7) + 1)) (fun u_8 =>
  pB (fX2_interrupt (gB_guest u_8)) (fun z_9 =>
  pLet (sB_guest u_8 z_9) (fun u_10 =>
  pB (fX4_dropWritten u_10) (fun z_11 =>
  pLet (sB_exit z_11 (-1)) (fun u_12 =>
  some u_12)))))))) else (
  some u)))))) := by rw [fX4_interruptIfDue]
theorem fX4_findBlock_e (u : TB) (x1 : Int32) : fX4_findBlock u x1 = (
  pB (fX0_isLinked (gB_cache u) (gB_exit u) x1) (fun z_1 =>
  if z_1 = 0 then (
  pLet (sB_lookups u ((gB_lookups u) + 1)) (fun u_3 =>
  pB (fX0_has (gB_cache u_3) x1) (fun z_4 =>
  if z_4 = 0 then (
  pB (fX0_translate (gB_cache u_3) (gG_memory (gB_guest u_3)) x1) (fun z_6 =>
  pLet (sB_cache u_3 z_6.2) (fun u_7 =>
  if z_6.1 = 0 then (
  some (0, u_7)) else (
  some (1, u_7))))) else (
  some (1, u_3))))) else (
  some (1, u)))) := by rw [fX4_findBlock]
theorem fX4_requestComes_b37_e (K2 : TB → Int32 → Int32 → Option (Int32)) (u : TB) (x1 : Int32) (x2 : Int32) : fX4_requestComes_b37 K2 u x1 x2 = (
  pLet (x2 + 1) (fun x_1 =>
  K2 u x1 x_1)) := by rw [fX4_requestComes_b37]
theorem fX4_requestComes_e (u : TB) (x1 : Int32) : fX4_requestComes u x1 = (
  fX4_requestComes_b2 fuelX4_requestComes_2 u x1 0) := by rw [fX4_requestComes]
theorem fX4_mayRunWhole_e (u : TB) (x1 : Int32) (x2 : Int32) : fX4_mayRunWhole u x1 x2 = (
  if x2 < x1 then (
  some 0) else (
  pB (fX4_requestComes u (((gB_executed u) + x1) - 1)) (fun z_2 =>
  if z_2 = 0 then (
  some 1) else (
  some 0)))) := by rw [fX4_mayRunWhole]
theorem fX4_perform_e (u : TB) (x1 : Int32) : fX4_perform u x1 = (
  pB (fX2_execute (gB_guest u) x1) (fun z_1 =>
  pLet (sB_guest u z_1) (fun u_2 =>
  pLet (sB_executed u_2 ((gB_executed u_2) + 1)) (fun u_3 =>
  pB (fX4_dropWritten u_3) (fun z_4 =>
  pLet (fX1_kind x1) (fun z_5 =>
  if z_5 = 1 then (
  pLet (sB_ending z_4 1) (fun u_7 =>
  some u_7)) else (
  some z_4))))))) := by rw [fX4_perform]
theorem fX4_runBlock_b93_e (u : TB) (y0 : Int32) : fX4_runBlock_b93 u y0 = (
  pLet (sB_exit u y0) (fun u_1 =>
  some u_1)) := by rw [fX4_runBlock_b93]
theorem fX4_runBlock_b59_e (u : TB) (x1 : Int32) : fX4_runBlock_b59 u x1 = (
  pB (fX0_has (gB_cache u) x1) (fun z_1 =>
  if z_1 = 0 then (
  fX4_runBlock_b93 u (-1)) else (
  pIn (9 : Int32) 10 (
  pB (fX0_exitTo (gB_cache u) x1 ((gG_state (gB_guest u)) ((9 : Int32)).toNatClampNeg)) (fun z_4 =>
  fX4_runBlock_b93 u z_4))))) := by rw [fX4_runBlock_b59]
theorem fX4_runBlock_e (u : TB) (x1 : Int32) : fX4_runBlock u x1 = (
  pB (fX0_link (gB_cache u) (gB_exit u) x1) (fun z_1 =>
  pLet (sB_cache u z_1) (fun u_2 =>
  pIn x1 256 (
  pLet ((gC_length (gB_cache u_2)) x1.toNatClampNeg) (fun x_4 =>
  fX4_runBlock_b24 fuelX4_runBlock_24 u_2 x1 x_4 0))))) := by rw [fX4_runBlock]
theorem fX4_interpret_e (u : TB) (x1 : Int32) : fX4_interpret u x1 = (
  pLet (sB_exit u (-1)) (fun u_1 =>
  pB (fX1_decode (gG_memory (gB_guest u_1)) x1) (fun z_2 =>
  pLet (fX1_kind z_2) (fun z_3 =>
  if z_3 = 0 then (
  pLet (sB_ending u_1 2) (fun u_7 =>
  some u_7)) else (
  pLet (sB_interpreted u_1 ((gB_interpreted u_1) + 1)) (fun u_5 =>
  pB (fX4_perform u_5 z_2) (fun z_6 =>
  some z_6))))))) := by rw [fX4_interpret]
theorem fX4_takeTurn_b48_e (u : TB) (x2 : Int32) : fX4_takeTurn_b48 u x2 = (
  pB (fX4_interpret u x2) (fun z_1 =>
  some z_1)) := by rw [fX4_takeTurn_b48]
theorem fX4_takeTurn_e (u : TB) (x1 : Int32) : fX4_takeTurn u x1 = (
  pB (fX4_interruptIfDue u) (fun z_1 =>
  pIn (9 : Int32) 10 (
  pLet ((gG_state (gB_guest z_1)) ((9 : Int32)).toNatClampNeg) (fun x_3 =>
  pB (fX4_findBlock z_1 x_3) (fun z_4 =>
  if z_4.1 = 0 then (
  fX4_takeTurn_b48 z_4.2 x_3) else (
  pIn x_3 256 (
  pB (fX4_mayRunWhole z_4.2 ((gC_length (gB_cache z_4.2)) x_3.toNatClampNeg) x1) (fun z_7 =>
  if z_7 = 0 then (
  fX4_takeTurn_b48 z_4.2 x_3) else (
  pB (fX4_runBlock z_4.2 x_3) (fun z_9 =>
  some z_9)))))))))) := by rw [fX4_takeTurn]
theorem fX4_run_b12_e (u : TB) : fX4_run_b12 u = (
  some (1, 0, u)) := by rw [fX4_run_b12]
theorem fX4_run_b79_e (u : TB) (x2 : Int32) : fX4_run_b79 u x2 = (
  some (0, ((gB_executed u) - x2), u)) := by rw [fX4_run_b79]
theorem fX4_run_e (u : TB) (x1 : Int32) : fX4_run u x1 = (
  if x1 < 1 then (
  fX4_run_b12 u) else (
  if x1 ≤ 5000 then (
  pLet (gB_executed u) (fun x_3 =>
  pLet (sB_ending u 0) (fun u_4 =>
  pLet (sB_exit u_4 (-1)) (fun u_5 =>
  fX4_run_b37 fuelX4_run_37 u_5 x1 x_3 0)))) else (
  fX4_run_b12 u))) := by rw [fX4_run]
theorem fX4_output_e (u : TB) (x1 : Int32) : fX4_output u x1 = (
  pB (fX2_outputAt (gB_guest u) x1) (fun z_1 =>
  some z_1)) := by rw [fX4_output]
theorem fX4_count_e (u : TB) (x1 : Int32) : fX4_count u x1 = (
  if x1 = 0 then (
  (0, (gB_executed u))) else (
  if x1 = 1 then (
  (0, (gC_blocks (gB_cache u)))) else (
  if x1 = 2 then (
  (0, (gC_filled (gB_cache u)))) else (
  if x1 = 3 then (
  (0, (gC_translated (gB_cache u)))) else (
  if x1 = 4 then (
  (0, (gB_invalidated u))) else (
  if x1 = 5 then (
  (0, (gC_flushes (gB_cache u)))) else (
  if x1 = 6 then (
  (0, (gB_lookups u))) else (
  if x1 = 7 then (
  (0, (gB_interpreted u))) else (
  if x1 = 8 then (
  (0, (gB_interrupts u))) else (
  if x1 = 9 then (
  (0, (gC_deadFlags (gB_cache u)))) else (
  if x1 = 10 then (
  (0, (gG_given (gB_guest u)))) else (
  if x1 = 11 then (
  (0, (gB_ending u))) else (
  (1, 0)))))))))))))) := by rw [fX4_count]
theorem fX5_thrown_e (u : TM) : fX5_thrown u = (
  (gM_refusal u)) := by rw [fX5_thrown]
theorem fX5_refused_e (u : TM) (x1 : Int32) : fX5_refused u x1 = (
  pLet (sM_refusal u x1) (fun u_1 =>
  if x1 ≤ 0 then (
  (0, u_1)) else (
  (1, u_1)))) := by rw [fX5_refused]
theorem fX5_isIn_e (x0 : Int32) (x1 : Int32) (x2 : Int32) : fX5_isIn x0 x1 x2 = (
  if x0 < x1 then (
  0) else (
  if x2 < x0 then (
  0) else (
  1))) := by rw [fX5_isIn]
theorem fX5_write_e (u : TM) (x1 : Int32) (x2 : Int32) : fX5_write u x1 x2 = (
  pIn x1 256 (
  pLet (sM_memory u (upd (gM_memory u) (x1).toNatClampNeg x2)) (fun u_2 =>
  pIn (4 : Int32) 12 (
  pB (fX5_invalidate u_2 x1) (fun z_4 =>
  pIn (4 : Int32) 12 (
  pLet (sM_counts z_4.2 (upd (gM_counts z_4.2) ((4 : Int32)).toNatClampNeg (((gM_counts u_2) ((4 : Int32)).toNatClampNeg) + z_4.1))) (fun u_6 =>
  some u_6))))))) := by rw [fX5_write]
theorem fX5_hasBlock_b68_e (u : TM) (x1 : Int32) : fX5_hasBlock_b68 u x1 = (
  pIn x1 256 (
  pLet (sM_size u (upd (gM_size u) (x1).toNatClampNeg (gM_foundSize u))) (fun u_2 =>
  pIn x1 256 (
  pLet (sM_length u_2 (upd (gM_length u_2) (x1).toNatClampNeg (gM_foundMany u_2))) (fun u_4 =>
  pIn x1 256 (
  pLet (sM_pages u_4 (upd (gM_pages u_4) (x1).toNatClampNeg (gM_foundPages u_4))) (fun u_6 =>
  pLet (sM_translated u_6 ((gM_translated u_6) + 1)) (fun u_7 =>
  pIn x1 256 (
  pLet (sM_which u_7 (upd (gM_which u_7) (x1).toNatClampNeg (gM_translated u_7))) (fun u_9 =>
  pIn (2 * x1) 512 (
  pLet (sM_exitAt u_9 (upd (gM_exitAt u_9) ((2 * x1)).toNatClampNeg (-1))) (fun u_11 =>
  pIn ((2 * x1) + 1) 512 (
  pLet (sM_exitAt u_11 (upd (gM_exitAt u_11) (((2 * x1) + 1)).toNatClampNeg (-1))) (fun u_13 =>
  pIn (1 : Int32) 12 (
  pIn (1 : Int32) 12 (
  pLet (sM_counts u_13 (upd (gM_counts u_13) ((1 : Int32)).toNatClampNeg (((gM_counts u_13) ((1 : Int32)).toNatClampNeg) + 1))) (fun u_16 =>
  pIn (2 : Int32) 12 (
  pIn (2 : Int32) 12 (
  pLet (sM_counts u_16 (upd (gM_counts u_16) ((2 : Int32)).toNatClampNeg (((gM_counts u_16) ((2 : Int32)).toNatClampNeg) + (gM_foundSize u_16)))) (fun u_19 =>
  pIn (3 : Int32) 12 (
  pIn (3 : Int32) 12 (
  pLet (sM_counts u_19 (upd (gM_counts u_19) ((3 : Int32)).toNatClampNeg (((gM_counts u_19) ((3 : Int32)).toNatClampNeg) + 1))) (fun u_22 =>
  pIn (9 : Int32) 12 (
  pIn (9 : Int32) 12 (
  pLet (sM_counts u_22 (upd (gM_counts u_22) ((9 : Int32)).toNatClampNeg (((gM_counts u_22) ((9 : Int32)).toNatClampNeg) + (gM_foundDead u_22)))) (fun u_25 =>
  some (1, u_25))))))))))))))))))))))))))) := by rw [fX5_hasBlock_b68]
theorem fX5_hasBlock_e (u : TM) (x1 : Int32) : fX5_hasBlock u x1 = (
  pIn x1 256 (
  if ((gM_size u) x1.toNatClampNeg) ≤ 0 then (
  pB (fX5_find u x1) (fun z_3 =>
  if (gM_foundMany z_3) = 0 then (
  some (0, z_3)) else (
  if (gM_foundSize z_3) ≤ (gM_room z_3) then (
  pIn (2 : Int32) 12 (
  if (((gM_counts z_3) ((2 : Int32)).toNatClampNeg) + (gM_foundSize z_3)) ≤ (gM_room z_3) then (
  fX5_hasBlock_b68 z_3 x1) else (
  pB (fX5_empty z_3) (fun z_8 =>
  pIn (5 : Int32) 12 (
  pIn (5 : Int32) 12 (
  pLet (sM_counts z_8 (upd (gM_counts z_8) ((5 : Int32)).toNatClampNeg (((gM_counts z_8) ((5 : Int32)).toNatClampNeg) + 1))) (fun u_11 =>
  fX5_hasBlock_b68 u_11 x1))))))) else (
  some (0, z_3))))) else (
  some (1, u)))) := by rw [fX5_hasBlock]
theorem fX5_setFlags_b18_e (u : TM) (x1 : Int32) (x2 : Int32) (y0 : Int32) (y1 : Int32) : fX5_setFlags_b18 u x1 x2 y0 y1 = (
  pIn y1 10 (
  pLet (sM_reg u (upd (gM_reg u) (y1).toNatClampNeg y0)) (fun u_2 =>
  pIn (6 : Int32) 10 (
  pLet (sM_reg u_2 (upd (gM_reg u_2) ((6 : Int32)).toNatClampNeg x2)) (fun u_4 =>
  pIn (7 : Int32) 10 (
  pLet (sM_reg u_4 (upd (gM_reg u_4) ((7 : Int32)).toNatClampNeg (((x1 : Int32) >>> ((7 : Int32) &&& 31)) &&& 1))) (fun u_6 =>
  some u_6))))))) := by rw [fX5_setFlags_b18]
theorem fX5_setFlags_e (u : TM) (x1 : Int32) (x2 : Int32) : fX5_setFlags u x1 x2 = (
  if (x1 &&& 255) = 0 then (
  fX5_setFlags_b18 u x1 x2 1 5) else (
  fX5_setFlags_b18 u x1 x2 0 5)) := by rw [fX5_setFlags]
theorem fX5_push_e (u : TM) (x1 : Int32) : fX5_push u x1 = (
  pIn (4 : Int32) 10 (
  pIn (4 : Int32) 10 (
  pLet (sM_reg u (upd (gM_reg u) ((4 : Int32)).toNatClampNeg ((((gM_reg u) ((4 : Int32)).toNatClampNeg) - 1) &&& 255))) (fun u_3 =>
  pIn (4 : Int32) 10 (
  pB (fX5_write u_3 ((gM_reg u_3) ((4 : Int32)).toNatClampNeg) x1) (fun z_5 =>
  some z_5)))))) := by rw [fX5_push]
theorem fX5_pop_e (u : TM) : fX5_pop u = (
  pIn (4 : Int32) 10 (
  pIn ((gM_reg u) ((4 : Int32)).toNatClampNeg) 256 (
  pLet ((gM_memory u) (((gM_reg u) ((4 : Int32)).toNatClampNeg)).toNatClampNeg) (fun x_3 =>
  pIn (4 : Int32) 10 (
  pIn (4 : Int32) 10 (
  pLet (sM_reg u (upd (gM_reg u) ((4 : Int32)).toNatClampNeg ((((gM_reg u) ((4 : Int32)).toNatClampNeg) + 1) &&& 255))) (fun u_6 =>
  some (x_3, u_6)))))))) := by rw [fX5_pop]
theorem fX5_goes_b79_e (u : TM) (y0 : Int32) (y1 : Int32) : fX5_goes_b79 u y0 y1 = (
  if y1 = y0 then (
  some 1) else (
  some 0)) := by rw [fX5_goes_b79]
theorem fX5_goes_b67_e (u : TM) (x1 : Int32) (y0 : Int32) : fX5_goes_b67 u x1 y0 = (
  if (x1 - x1 / 2 * 2) = 1 then (
  fX5_goes_b79 u 1 y0) else (
  fX5_goes_b79 u 0 y0)) := by rw [fX5_goes_b67]
theorem fX5_goes_e (u : TM) (x1 : Int32) : fX5_goes u x1 = (
  if x1 = 0 then (
  some 1) else (
  if 3 ≤ x1 then (
  if 5 ≤ x1 then (
  pIn (7 : Int32) 10 (
  if ((gM_reg u) ((7 : Int32)).toNatClampNeg) = 1 then (
  fX5_goes_b67 u x1 1) else (
  fX5_goes_b67 u x1 0))) else (
  pIn (6 : Int32) 10 (
  if ((gM_reg u) ((6 : Int32)).toNatClampNeg) = 1 then (
  fX5_goes_b67 u x1 1) else (
  fX5_goes_b67 u x1 0)))) else (
  pIn (5 : Int32) 10 (
  if ((gM_reg u) ((5 : Int32)).toNatClampNeg) = 1 then (
  fX5_goes_b67 u x1 1) else (
  fX5_goes_b67 u x1 0))))) := by rw [fX5_goes]
theorem fX5_add_e (u : TM) (x1 : Int32) (x2 : Int32) (x3 : Int32) : fX5_add u x1 x2 x3 = (
  pIn x1 10 (
  pLet ((((gM_reg u) x1.toNatClampNeg) + x2) + x3) (fun x_2 =>
  pB (fX5_setFlags u x_2 ((x_2 : Int32) >>> ((8 : Int32) &&& 31))) (fun z_3 =>
  pIn x1 10 (
  pLet (sM_reg z_3 (upd (gM_reg z_3) (x1).toNatClampNeg (x_2 &&& 255))) (fun u_5 =>
  some u_5)))))) := by rw [fX5_add]
theorem fX5_less_b19_e (u : TM) (x3 : Int32) (y0 : Int32) (y1 : Int32) : fX5_less_b19 u x3 y0 y1 = (
  pB (fX5_setFlags u y1 y0) (fun z_1 =>
  some ((x3 &&& 255), z_1))) := by rw [fX5_less_b19]
theorem fX5_less_e (u : TM) (x1 : Int32) (x2 : Int32) : fX5_less u x1 x2 = (
  pLet (x1 - x2) (fun x_1 =>
  if 0 ≤ x_1 then (
  fX5_less_b19 u x_1 0 (x_1 &&& 255)) else (
  fX5_less_b19 u x_1 1 (x_1 &&& 255)))) := by rw [fX5_less]
theorem fX5_shift_b98_e (u : TM) (x1 : Int32) (x6 : Int32) (y0 : Int32) (y1 : Int32) : fX5_shift_b98 u x1 x6 y0 y1 = (
  pB (fX5_setFlags u y1 y0) (fun z_1 =>
  pIn x1 10 (
  pLet (sM_reg z_1 (upd (gM_reg z_1) (x1).toNatClampNeg x6)) (fun u_3 =>
  some u_3)))) := by rw [fX5_shift_b98]
theorem fX5_shift_b78_e (u : TM) (x1 : Int32) (x3 : Int32) (x4 : Int32) (y0 : Int32) : fX5_shift_b78 u x1 x3 x4 y0 = (
  if x4 = 0 then (
  fX5_shift_b98 u x1 y0 (x3 &&& 1) y0) else (
  fX5_shift_b98 u x1 y0 ((x3 : Int32) >>> ((7 : Int32) &&& 31)) y0)) := by rw [fX5_shift_b78]
theorem fX5_shift_b49_e (u : TM) (x1 : Int32) (x3 : Int32) (x4 : Int32) (y0 : Int32) : fX5_shift_b49 u x1 x3 x4 y0 = (
  if x4 = 0 then (
  fX5_shift_b78 u x1 x3 x4 (((x3 : Int32) >>> ((1 : Int32) &&& 31)) ||| ((y0 : Int32) <<< ((7 : Int32) &&& 31)))) else (
  fX5_shift_b78 u x1 x3 x4 ((((x3 : Int32) <<< ((1 : Int32) &&& 31)) &&& 255) ||| y0))) := by rw [fX5_shift_b49]
theorem fX5_shift_b38_e (u : TM) (x1 : Int32) (x3 : Int32) (x4 : Int32) : fX5_shift_b38 u x1 x3 x4 = (
  pIn (6 : Int32) 10 (
  fX5_shift_b49 u x1 x3 x4 ((gM_reg u) ((6 : Int32)).toNatClampNeg))) := by rw [fX5_shift_b38]
theorem fX5_shift_b24_e (u : TM) (x1 : Int32) (x2 : Int32) (x3 : Int32) (y0 : Int32) : fX5_shift_b24 u x1 x2 x3 y0 = (
  if x2 = 15 then (
  fX5_shift_b38 u x1 x3 y0) else (
  if x2 = 16 then (
  fX5_shift_b38 u x1 x3 y0) else (
  fX5_shift_b49 u x1 x3 y0 0))) := by rw [fX5_shift_b24]
theorem fX5_shift_b19_e (u : TM) (x1 : Int32) (x2 : Int32) (x3 : Int32) : fX5_shift_b19 u x1 x2 x3 = (
  fX5_shift_b24 u x1 x2 x3 1) := by rw [fX5_shift_b19]
theorem fX5_shift_e (u : TM) (x1 : Int32) (x2 : Int32) : fX5_shift u x1 x2 = (
  pIn x1 10 (
  pLet ((gM_reg u) x1.toNatClampNeg) (fun x_2 =>
  if x2 = 13 then (
  fX5_shift_b19 u x1 x2 x_2) else (
  if x2 = 15 then (
  fX5_shift_b19 u x1 x2 x_2) else (
  fX5_shift_b24 u x1 x2 x_2 0))))) := by rw [fX5_shift]
theorem fX5_receive_e (u : TM) : fX5_receive u = (
  pIn (0 : Int32) 10 (
  pLet (sM_reg u (upd (gM_reg u) ((0 : Int32)).toNatClampNeg 0)) (fun u_2 =>
  if (gM_inputMany u_2) ≤ 0 then (
  some u_2) else (
  pIn (0 : Int32) 32 (
  pIn (0 : Int32) 10 (
  pLet (sM_reg u_2 (upd (gM_reg u_2) ((0 : Int32)).toNatClampNeg ((gM_inputs u_2) ((0 : Int32)).toNatClampNeg))) (fun u_6 =>
  pLet (sM_inputMany u_6 ((gM_inputMany u_6) - 1)) (fun u_7 =>
  fX5_receive_b38 fuelX5_receive_38 u_7 0)))))))) := by rw [fX5_receive]
theorem fX5_stepOn_b200_e (u : TM) (y0 : Int32) (y1 : Int32) : fX5_stepOn_b200 u y0 y1 = (
  pIn y1 10 (
  pLet (sM_reg u (upd (gM_reg u) (y1).toNatClampNeg y0)) (fun u_2 =>
  some u_2))) := by rw [fX5_stepOn_b200]
theorem fX5_stepOn_b300_e (u : TM) (y0 : Int32) (y1 : Int32) : fX5_stepOn_b300 u y0 y1 = (
  pIn y1 10 (
  pLet (sM_reg u (upd (gM_reg u) (y1).toNatClampNeg y0)) (fun u_2 =>
  some u_2))) := by rw [fX5_stepOn_b300]
theorem fX5_stepOn_e (u : TM) (x1 : Int32) (x2 : Int32) (x3 : Int32) (x4 : Int32) (x5 : Int32) : fX5_stepOn u x1 x2 x3 x4 x5 = (
  pLet (gM_kind u) (fun x_1 =>
  if x_1 = 17 then (
  pIn x2 10 (
  pLet (sM_reg u (upd (gM_reg u) (x2).toNatClampNeg x1)) (fun u_8 =>
  some u_8))) else (
  if x_1 = 18 then (
  pB (fX5_add u x2 x1 0) (fun z_10 =>
  some z_10)) else (
  if x_1 = 19 then (
  pIn x2 10 (
  pB (fX5_less u ((gM_reg u) x2.toNatClampNeg) x1) (fun z_13 =>
  some z_13.2))) else (
  if x_1 = 20 then (
  pIn x2 10 (
  pIn x2 10 (
  pLet (sM_reg u (upd (gM_reg u) (x2).toNatClampNeg (((gM_reg u) x2.toNatClampNeg) ^^^ x1))) (fun u_17 =>
  pIn x2 10 (
  pB (fX5_setFlags u_17 ((gM_reg u_17) x2.toNatClampNeg) 0) (fun z_19 =>
  some z_19)))))) else (
  if x_1 = 21 then (
  pIn x3 10 (
  pIn ((((gM_reg u) x3.toNatClampNeg) + x1) &&& 255) 256 (
  pIn x2 10 (
  pLet (sM_reg u (upd (gM_reg u) (x2).toNatClampNeg ((gM_memory u) (((((gM_reg u) x3.toNatClampNeg) + x1) &&& 255)).toNatClampNeg))) (fun u_24 =>
  some u_24))))) else (
  if x_1 = 22 then (
  pIn x3 10 (
  pIn x2 10 (
  pB (fX5_write u ((((gM_reg u) x3.toNatClampNeg) + x1) &&& 255) ((gM_reg u) x2.toNatClampNeg)) (fun z_28 =>
  some z_28)))) else (
  if x_1 = 23 then (
  pB (fX5_goes u x4) (fun z_30 =>
  if z_30 = 0 then (
  fX5_stepOn_b200 u x5 9) else (
  fX5_stepOn_b200 u x1 9))) else (
  if x_1 = 24 then (
  pB (fX5_push u x5) (fun z_33 =>
  pIn (9 : Int32) 10 (
  pLet (sM_reg z_33 (upd (gM_reg z_33) ((9 : Int32)).toNatClampNeg x1)) (fun u_35 =>
  some u_35)))) else (
  if x_1 = 25 then (
  pB (fX5_pop u) (fun z_37 =>
  pIn (9 : Int32) 10 (
  pLet (sM_reg z_37.2 (upd (gM_reg z_37.2) ((9 : Int32)).toNatClampNeg z_37.1)) (fun u_39 =>
  some u_39)))) else (
  if x_1 = 26 then (
  pIn x2 10 (
  pB (fX5_push u ((gM_reg u) x2.toNatClampNeg)) (fun z_42 =>
  some z_42))) else (
  if x_1 = 27 then (
  pB (fX5_pop u) (fun z_44 =>
  pIn x2 10 (
  pLet (sM_reg z_44.2 (upd (gM_reg z_44.2) (x2).toNatClampNeg z_44.1)) (fun u_46 =>
  some u_46)))) else (
  pIn x2 10 (
  pIn x2 10 (
  pLet (sM_reg u (upd (gM_reg u) (x2).toNatClampNeg ((((gM_reg u) x2.toNatClampNeg) - 1) &&& 255))) (fun u_4 =>
  pIn x2 10 (
  if ((gM_reg u_4) x2.toNatClampNeg) = 0 then (
  fX5_stepOn_b300 u_4 x5 9) else (
  fX5_stepOn_b300 u_4 x1 9)))))))))))))))))) := by rw [fX5_stepOn]
theorem fX5_step_b218_e (u : TM) : fX5_step_b218 u = (
  pIn (10 : Int32) 12 (
  pIn (10 : Int32) 12 (
  pLet (sM_counts u (upd (gM_counts u) ((10 : Int32)).toNatClampNeg (((gM_counts u) ((10 : Int32)).toNatClampNeg) + 1))) (fun u_3 =>
  some u_3)))) := by rw [fX5_step_b218]
theorem fX5_step_b258_e (u : TM) (y0 : Int32) (y1 : Int32) : fX5_step_b258 u y0 y1 = (
  pIn y1 10 (
  pLet (sM_reg u (upd (gM_reg u) (y1).toNatClampNeg y0)) (fun u_2 =>
  some u_2))) := by rw [fX5_step_b258]
theorem fX5_step_b239_e (u : TM) : fX5_step_b239 u = (
  if (gM_kind u) = 4 then (
  fX5_step_b258 u 1 8) else (
  fX5_step_b258 u 0 8)) := by rw [fX5_step_b239]
theorem fX5_step_b307_e (u : TM) (y0 : Int32) (y1 : Int32) (y2 : Int32) : fX5_step_b307 u y0 y1 y2 = (
  pB (fX5_add u y2 y1 y0) (fun z_1 =>
  some z_1)) := by rw [fX5_step_b307]
theorem fX5_step_b278_e (u : TM) (x3 : Int32) (x4 : Int32) : fX5_step_b278 u x3 x4 = (
  pIn x4 10 (
  if (gM_kind u) = 8 then (
  pIn (6 : Int32) 10 (
  fX5_step_b307 u ((gM_reg u) ((6 : Int32)).toNatClampNeg) ((gM_reg u) x4.toNatClampNeg) x3)) else (
  fX5_step_b307 u 0 ((gM_reg u) x4.toNatClampNeg) x3))) := by rw [fX5_step_b278]
theorem fX5_step_b406_e (u : TM) (x3 : Int32) (y0 : Int32) (y1 : Int32) : fX5_step_b406 u x3 y0 y1 = (
  pIn y1 10 (
  pLet (sM_reg u (upd (gM_reg u) (y1).toNatClampNeg y0)) (fun u_2 =>
  pIn x3 10 (
  pB (fX5_setFlags u_2 ((gM_reg u_2) x3.toNatClampNeg) 0) (fun z_4 =>
  some z_4))))) := by rw [fX5_step_b406]
theorem fX5_step_b361_e (u : TM) (x3 : Int32) (x4 : Int32) : fX5_step_b361 u x3 x4 = (
  if (gM_kind u) = 11 then (
  pIn x3 10 (
  pIn x4 10 (
  fX5_step_b406 u x3 (((gM_reg u) x3.toNatClampNeg) &&& ((gM_reg u) x4.toNatClampNeg)) x3))) else (
  pIn x3 10 (
  pIn x4 10 (
  fX5_step_b406 u x3 (((gM_reg u) x3.toNatClampNeg) ^^^ ((gM_reg u) x4.toNatClampNeg)) x3)))) := by rw [fX5_step_b361]
theorem fX5_step_b421_e (u : TM) (x3 : Int32) : fX5_step_b421 u x3 = (
  pB (fX5_shift u x3 (gM_kind u)) (fun z_1 =>
  some z_1)) := by rw [fX5_step_b421]
theorem fX5_step_e (u : TM) : fX5_step u = (
  pIn (9 : Int32) 10 (
  pIn ((gM_reg u) ((9 : Int32)).toNatClampNeg) 256 (
  pLet ((gM_memory u) (((gM_reg u) ((9 : Int32)).toNatClampNeg)).toNatClampNeg) (fun x_3 =>
  pIn (9 : Int32) 10 (
  pB (fX5_look u ((gM_reg u) ((9 : Int32)).toNatClampNeg)) (fun z_5 =>
  pIn (9 : Int32) 10 (
  pIn ((((gM_reg z_5) ((9 : Int32)).toNatClampNeg) + 1) &&& 255) 256 (
  pLet ((gM_memory z_5) (((((gM_reg z_5) ((9 : Int32)).toNatClampNeg) + 1) &&& 255)).toNatClampNeg) (fun x_8 =>
  pLet (((x_3 : Int32) >>> ((2 : Int32) &&& 31)) &&& 3) (fun x_9 =>
  pLet (x_3 &&& 3) (fun x_10 =>
  pIn (9 : Int32) 10 (
  pLet ((((gM_reg z_5) ((9 : Int32)).toNatClampNeg) + (gM_bytes z_5)) &&& 255) (fun x_12 =>
  pIn (9 : Int32) 10 (
  pLet (sM_reg z_5 (upd (gM_reg z_5) ((9 : Int32)).toNatClampNeg x_12)) (fun u_14 =>
  pIn (0 : Int32) 12 (
  pIn (0 : Int32) 12 (
  pLet (sM_counts u_14 (upd (gM_counts u_14) ((0 : Int32)).toNatClampNeg (((gM_counts u_14) ((0 : Int32)).toNatClampNeg) + 1))) (fun u_17 =>
  pLet (gM_kind u_17) (fun x_18 =>
  if x_18 = 1 then (
  pLet (sM_isOver u_17 1) (fun u_20 =>
  pIn (11 : Int32) 12 (
  pLet (sM_counts u_20 (upd (gM_counts u_20) ((11 : Int32)).toNatClampNeg 1)) (fun u_22 =>
  some u_22)))) else (
  if x_18 = 2 then (
  pIn (10 : Int32) 12 (
  if 100 ≤ ((gM_counts u_17) ((10 : Int32)).toNatClampNeg) then (
  fX5_step_b218 u_17) else (
  pIn (10 : Int32) 12 (
  pIn (0 : Int32) 10 (
  pIn ((gM_counts u_17) ((10 : Int32)).toNatClampNeg) 100 (
  pLet (sM_given u_17 (upd (gM_given u_17) (((gM_counts u_17) ((10 : Int32)).toNatClampNeg)).toNatClampNeg ((gM_reg u_17) ((0 : Int32)).toNatClampNeg))) (fun u_29 =>
  fX5_step_b218 u_29))))))) else (
  if x_18 = 3 then (
  pB (fX5_receive u_17) (fun z_31 =>
  some z_31)) else (
  if x_18 = 4 then (
  fX5_step_b239 u_17) else (
  if x_18 = 5 then (
  fX5_step_b239 u_17) else (
  if x_18 = 6 then (
  pIn x_10 10 (
  pIn x_9 10 (
  pLet (sM_reg u_17 (upd (gM_reg u_17) (x_9).toNatClampNeg ((gM_reg u_17) x_10.toNatClampNeg))) (fun u_37 =>
  some u_37)))) else (
  if x_18 = 7 then (
  fX5_step_b278 u_17 x_9 x_10) else (
  if x_18 = 8 then (
  fX5_step_b278 u_17 x_9 x_10) else (
  if x_18 = 9 then (
  pIn x_9 10 (
  pIn x_10 10 (
  pB (fX5_less u_17 ((gM_reg u_17) x_9.toNatClampNeg) ((gM_reg u_17) x_10.toNatClampNeg)) (fun z_43 =>
  pIn x_9 10 (
  pLet (sM_reg z_43.2 (upd (gM_reg z_43.2) (x_9).toNatClampNeg z_43.1)) (fun u_45 =>
  some u_45)))))) else (
  if x_18 = 10 then (
  pIn x_9 10 (
  pIn x_10 10 (
  pB (fX5_less u_17 ((gM_reg u_17) x_9.toNatClampNeg) ((gM_reg u_17) x_10.toNatClampNeg)) (fun z_49 =>
  some z_49.2)))) else (
  if x_18 = 11 then (
  fX5_step_b361 u_17 x_9 x_10) else (
  if x_18 = 12 then (
  fX5_step_b361 u_17 x_9 x_10) else (
  if x_18 = 13 then (
  fX5_step_b421 u_17 x_9) else (
  if x_18 = 14 then (
  fX5_step_b421 u_17 x_9) else (
  if x_18 = 15 then (
  fX5_step_b421 u_17 x_9) else (
  if x_18 = 16 then (
  fX5_step_b421 u_17 x_9) else (
  pB (fX5_stepOn u_17 x_8 x_9 x_10 (x_3 &&& 15) x_12) (fun z_19 =>
  some z_19)))))))))))))))))))))))))))))))))))) := by rw [fX5_step]
theorem fX5_interrupt_e (u : TM) : fX5_interrupt u = (
  pIn (8 : Int32) 10 (
  pLet (sM_reg u (upd (gM_reg u) ((8 : Int32)).toNatClampNeg 0)) (fun u_2 =>
  pLet (sM_requestMany u_2 ((gM_requestMany u_2) - 1)) (fun u_3 =>
  fX5_interrupt_b20 fuelX5_interrupt_20 u_3 0)))) := by rw [fX5_interrupt]
theorem fX5_isLinked_e (u : TM) (x1 : Int32) : fX5_isLinked u x1 = (
  if (gM_leftBy u) < 0 then (
  some 0) else (
  pIn x1 256 (
  if ((gM_size u) x1.toNatClampNeg) ≤ 0 then (
  some 0) else (
  pIn (gM_leftBy u) 512 (
  pIn x1 256 (
  if ((gM_exitTo u) ((gM_leftBy u)).toNatClampNeg) = ((gM_which u) x1.toNatClampNeg) then (
  some 1) else (
  some 0))))))) := by rw [fX5_isLinked]
theorem fX5_leave_b50_e (u : TM) (x3 : Int32) : fX5_leave_b50 u x3 = (
  pLet (sM_leftBy u x3) (fun u_1 =>
  some u_1)) := by rw [fX5_leave_b50]
theorem fX5_leave_b26_e (u : TM) (x2 : Int32) (x3 : Int32) : fX5_leave_b26 u x2 x3 = (
  pIn x3 512 (
  if ((gM_exitAt u) x3.toNatClampNeg) = x2 then (
  fX5_leave_b50 u x3) else (
  pIn x3 512 (
  pLet (sM_exitAt u (upd (gM_exitAt u) (x3).toNatClampNeg x2)) (fun u_4 =>
  pIn x3 512 (
  pLet (sM_exitTo u_4 (upd (gM_exitTo u_4) (x3).toNatClampNeg (-1))) (fun u_6 =>
  fX5_leave_b50 u_6 x3))))))) := by rw [fX5_leave_b26]
theorem fX5_leave_e (u : TM) (x1 : Int32) (x2 : Int32) : fX5_leave u x1 x2 = (
  pLet (2 * x1) (fun x_1 =>
  pIn x_1 512 (
  if ((gM_exitAt u) x_1.toNatClampNeg) < 0 then (
  fX5_leave_b26 u x2 x_1) else (
  pIn x_1 512 (
  if ((gM_exitAt u) x_1.toNatClampNeg) = x2 then (
  fX5_leave_b26 u x2 x_1) else (
  pLet (x_1 + 1) (fun x_6 =>
  fX5_leave_b26 u x2 x_6))))))) := by rw [fX5_leave]
theorem fX5_runBlock_b104_e (K59 : TM → Int32 → Int32 → Int32 → Int32 → Int32 → Int32 → Option (TM)) (u : TM) (x1 : Int32) (x2 : Int32) (x3 : Int32) (x5 : Int32) (x6 : Int32) (y0 : Int32) : fX5_runBlock_b104 K59 u x1 x2 x3 x5 x6 y0 = (
  pLet (x6 + 1) (fun x_1 =>
  K59 u x1 x2 x3 y0 x5 x_1)) := by rw [fX5_runBlock_b104]
theorem fX5_runBlock_b103_e (K59 : TM → Int32 → Int32 → Int32 → Int32 → Int32 → Int32 → Option (TM)) (u : TM) (x1 : Int32) (x2 : Int32) (x3 : Int32) (x5 : Int32) (x6 : Int32) : fX5_runBlock_b103 K59 u x1 x2 x3 x5 x6 = (
  fX5_runBlock_b104 K59 u x1 x2 x3 x5 x6 0) := by rw [fX5_runBlock_b103]
theorem fX5_runBlock_b112_e (u : TM) (x1 : Int32) (x4 : Int32) (x5 : Int32) : fX5_runBlock_b112 u x1 x4 x5 = (
  if x4 = 0 then (
  some u) else (
  if x5 = 25 then (
  some u) else (
  if x5 = 1 then (
  some u) else (
  pIn (9 : Int32) 10 (
  pB (fX5_leave u x1 ((gM_reg u) ((9 : Int32)).toNatClampNeg)) (fun z_5 =>
  some z_5)))))) := by rw [fX5_runBlock_b112]
theorem fX5_runBlock_b38_e (u : TM) (x1 : Int32) (x2 : Int32) : fX5_runBlock_b38 u x1 x2 = (
  pLet (sM_leftBy u (-1)) (fun u_1 =>
  pIn x1 256 (
  pLet ((gM_length u_1) x1.toNatClampNeg) (fun x_3 =>
  fX5_runBlock_b59 fuelX5_runBlock_59 u_1 x1 x2 x_3 1 0 0)))) := by rw [fX5_runBlock_b38]
theorem fX5_runBlock_e (u : TM) (x1 : Int32) : fX5_runBlock u x1 = (
  pIn x1 256 (
  pLet ((gM_which u) x1.toNatClampNeg) (fun x_2 =>
  if (gM_leftBy u) < 0 then (
  fX5_runBlock_b38 u x1 x_2) else (
  pIn ((gM_leftBy u) / 2) 256 (
  if ((gM_size u) (((gM_leftBy u) / 2)).toNatClampNeg) ≤ 0 then (
  fX5_runBlock_b38 u x1 x_2) else (
  pIn (gM_leftBy u) 512 (
  pLet (sM_exitTo u (upd (gM_exitTo u) ((gM_leftBy u)).toNatClampNeg x_2)) (fun u_7 =>
  fX5_runBlock_b38 u_7 x1 x_2)))))))) := by rw [fX5_runBlock]
theorem fX5_goOn_b131_e (u : TM) (x2 : Int32) : fX5_goOn_b131 u x2 = (
  pLet (sM_leftBy u (-1)) (fun u_1 =>
  pB (fX5_look u_1 x2) (fun z_2 =>
  if (gM_kind z_2) = 0 then (
  pIn (11 : Int32) 12 (
  pLet (sM_counts z_2 (upd (gM_counts z_2) ((11 : Int32)).toNatClampNeg 2)) (fun u_10 =>
  some (0, u_10)))) else (
  pB (fX5_step z_2) (fun z_4 =>
  pIn (7 : Int32) 12 (
  pIn (7 : Int32) 12 (
  pLet (sM_counts z_4 (upd (gM_counts z_4) ((7 : Int32)).toNatClampNeg (((gM_counts z_4) ((7 : Int32)).toNatClampNeg) + 1))) (fun u_7 =>
  if (gM_isOver u_7) = 0 then (
  some (1, u_7)) else (
  some (0, u_7)))))))))) := by rw [fX5_goOn_b131]
theorem fX5_goOn_b83_e (u : TM) (x1 : Int32) (x2 : Int32) (y0 : Int32) : fX5_goOn_b83 u x1 x2 y0 = (
  if y0 = 0 then (
  fX5_goOn_b131 u x2) else (
  pIn x2 256 (
  if x1 < ((gM_length u) x2.toNatClampNeg) then (
  fX5_goOn_b131 u x2) else (
  pIn x2 256 (
  pB (fX5_isDisturbed u ((gM_length u) x2.toNatClampNeg)) (fun z_5 =>
  if z_5 = 0 then (
  pB (fX5_runBlock u x2) (fun z_7 =>
  if (gM_isOver z_7) = 0 then (
  some (1, z_7)) else (
  some (0, z_7)))) else (
  fX5_goOn_b131 u x2))))))) := by rw [fX5_goOn_b83]
theorem fX5_goOn_b78_e (u : TM) (x1 : Int32) (x2 : Int32) : fX5_goOn_b78 u x1 x2 = (
  fX5_goOn_b83 u x1 x2 1) := by rw [fX5_goOn_b78]
theorem fX5_goOn_b66_e (u : TM) (x1 : Int32) (x2 : Int32) (x3 : Int32) : fX5_goOn_b66 u x1 x2 x3 = (
  if x3 = 0 then (
  pB (fX5_hasBlock u x2) (fun z_2 =>
  if z_2.1 = 0 then (
  fX5_goOn_b83 z_2.2 x1 x2 0) else (
  fX5_goOn_b78 z_2.2 x1 x2))) else (
  fX5_goOn_b78 u x1 x2)) := by rw [fX5_goOn_b66]
theorem fX5_goOn_b37_e (u : TM) (x1 : Int32) : fX5_goOn_b37 u x1 = (
  pIn (9 : Int32) 10 (
  pLet ((gM_reg u) ((9 : Int32)).toNatClampNeg) (fun x_2 =>
  pB (fX5_isLinked u x_2) (fun z_3 =>
  if z_3 = 0 then (
  pIn (6 : Int32) 12 (
  pIn (6 : Int32) 12 (
  pLet (sM_counts u (upd (gM_counts u) ((6 : Int32)).toNatClampNeg (((gM_counts u) ((6 : Int32)).toNatClampNeg) + 1))) (fun u_7 =>
  fX5_goOn_b66 u_7 x1 x_2 z_3)))) else (
  fX5_goOn_b66 u x1 x_2 z_3))))) := by rw [fX5_goOn_b37]
theorem fX5_goOn_e (u : TM) (x1 : Int32) : fX5_goOn u x1 = (
  if (gM_requestMany u) ≤ 0 then (
  fX5_goOn_b37 u x1) else (
  pIn (8 : Int32) 10 (
  if ((gM_reg u) ((8 : Int32)).toNatClampNeg) = 1 then (
  pIn (0 : Int32) 16 (
  pIn (0 : Int32) 12 (
  if ((gM_counts u) ((0 : Int32)).toNatClampNeg) < ((gM_requests u) ((0 : Int32)).toNatClampNeg) then (
  fX5_goOn_b37 u x1) else (
  pB (fX5_interrupt u) (fun z_7 =>
  fX5_goOn_b37 z_7 x1))))) else (
  fX5_goOn_b37 u x1)))) := by rw [fX5_goOn]
theorem fX5_run_b86_e (u : TM) (x2 : Int32) : fX5_run_b86 u x2 = (
  pLet (sM_leftBy u (-1)) (fun u_1 =>
  pIn (0 : Int32) 12 (
  some ((((gM_counts u_1) ((0 : Int32)).toNatClampNeg) - x2), u_1)))) := by rw [fX5_run_b86]
theorem fX5_run_b17_e (u : TM) (x1 : Int32) (y0 : Int32) : fX5_run_b17 u x1 y0 = (
  pLet (fX5_refused u y0) (fun z_1 =>
  if z_1.1 = 0 then (
  pIn (0 : Int32) 12 (
  pLet ((gM_counts z_1.2) ((0 : Int32)).toNatClampNeg) (fun x_4 =>
  pIn (11 : Int32) 12 (
  pLet (sM_counts z_1.2 (upd (gM_counts z_1.2) ((11 : Int32)).toNatClampNeg 0)) (fun u_6 =>
  pLet (sM_leftBy u_6 (-1)) (fun u_7 =>
  pLet (sM_isOver u_7 0) (fun u_8 =>
  fX5_run_b52 fuelX5_run_52 u_8 x1 x_4 1))))))) else (
  some (0, z_1.2)))) := by rw [fX5_run_b17]
theorem fX5_run_e (u : TM) (x1 : Int32) : fX5_run u x1 = (
  pLet (fX5_isIn x1 1 5000) (fun z_1 =>
  if z_1 = 0 then (
  fX5_run_b17 u x1 1) else (
  fX5_run_b17 u x1 0))) := by rw [fX5_run]
theorem fX5_poke_b26_e (u : TM) (x1 : Int32) (x2 : Int32) (x3 : Int32) (y0 : Int32) : fX5_poke_b26 u x1 x2 x3 y0 = (
  pLet (fX5_refused u y0) (fun z_1 =>
  if z_1.1 = 0 then (
  fX5_poke_b36 fuelX5_poke_36 z_1.2 x1 x2 x3 0) else (
  some z_1.2))) := by rw [fX5_poke_b26]
theorem fX5_poke_b25_e (u : TM) (x1 : Int32) (x2 : Int32) (x3 : Int32) : fX5_poke_b25 u x1 x2 x3 = (
  fX5_poke_b26 u x1 x2 x3 1) := by rw [fX5_poke_b25]
theorem fX5_poke_e (u : TM) (x1 : Int32) (x2 : Int32) (x3 : Int32) : fX5_poke u x1 x2 x3 = (
  pLet (fX5_isIn x1 0 255) (fun z_1 =>
  if z_1 = 0 then (
  fX5_poke_b25 u x1 x2 x3) else (
  pLet (fX5_isIn x3 1 4) (fun z_3 =>
  if z_3 = 0 then (
  fX5_poke_b25 u x1 x2 x3) else (
  fX5_poke_b26 u x1 x2 x3 0))))) := by rw [fX5_poke]
theorem fX5_peek_b17_e (u : TM) (x1 : Int32) (y0 : Int32) : fX5_peek_b17 u x1 y0 = (
  pLet (fX5_refused u y0) (fun z_1 =>
  if z_1.1 = 0 then (
  pIn x1 256 (
  some (((gM_memory z_1.2) x1.toNatClampNeg), z_1.2))) else (
  some (0, z_1.2)))) := by rw [fX5_peek_b17]
theorem fX5_peek_e (u : TM) (x1 : Int32) : fX5_peek u x1 = (
  pLet (fX5_isIn x1 0 255) (fun z_1 =>
  if z_1 = 0 then (
  fX5_peek_b17 u x1 1) else (
  fX5_peek_b17 u x1 0))) := by rw [fX5_peek]
theorem fX5_set_b52_e (u : TM) (x1 : Int32) (x2 : Int32) (y0 : Int32) : fX5_set_b52 u x1 x2 y0 = (
  pLet (fX5_refused u y0) (fun z_1 =>
  if z_1.1 = 0 then (
  pIn x1 10 (
  pLet (sM_reg z_1.2 (upd (gM_reg z_1.2) (x1).toNatClampNeg x2)) (fun u_4 =>
  some u_4))) else (
  some z_1.2))) := by rw [fX5_set_b52]
theorem fX5_set_b41_e (u : TM) (x1 : Int32) (x2 : Int32) (y0 : Int32) : fX5_set_b41 u x1 x2 y0 = (
  if y0 = 0 then (
  fX5_set_b52 u x1 x2 1) else (
  fX5_set_b52 u x1 x2 0)) := by rw [fX5_set_b41]
theorem fX5_set_b40_e (u : TM) (x1 : Int32) (x2 : Int32) : fX5_set_b40 u x1 x2 = (
  fX5_set_b41 u x1 x2 0) := by rw [fX5_set_b40]
theorem fX5_set_b30_e (u : TM) (x1 : Int32) (x2 : Int32) (y0 : Int32) (y1 : Int32) (y2 : Int32) : fX5_set_b30 u x1 x2 y0 y1 y2 = (
  pLet (fX5_isIn y2 y1 y0) (fun z_1 =>
  if z_1 = 0 then (
  fX5_set_b40 u x1 x2) else (
  fX5_set_b41 u x1 x2 1))) := by rw [fX5_set_b30]
theorem fX5_set_b27_e (u : TM) (x1 : Int32) (x2 : Int32) (y0 : Int32) (y1 : Int32) : fX5_set_b27 u x1 x2 y0 y1 = (
  fX5_set_b30 u x1 x2 255 y0 y1) := by rw [fX5_set_b27]
theorem fX5_set_e (u : TM) (x1 : Int32) (x2 : Int32) : fX5_set u x1 x2 = (
  pLet (fX5_isIn x1 0 9) (fun z_1 =>
  if z_1 = 0 then (
  fX5_set_b40 u x1 x2) else (
  if x1 < 5 then (
  fX5_set_b27 u x1 x2 0 x2) else (
  if 8 < x1 then (
  fX5_set_b27 u x1 x2 0 x2) else (
  fX5_set_b30 u x1 x2 1 0 x2))))) := by rw [fX5_set]
theorem fX5_get_b16_e (u : TM) (x1 : Int32) (y0 : Int32) : fX5_get_b16 u x1 y0 = (
  pLet (fX5_refused u y0) (fun z_1 =>
  if z_1.1 = 0 then (
  pIn x1 10 (
  some (((gM_reg z_1.2) x1.toNatClampNeg), z_1.2))) else (
  some (0, z_1.2)))) := by rw [fX5_get_b16]
theorem fX5_get_e (u : TM) (x1 : Int32) : fX5_get u x1 = (
  pLet (fX5_isIn x1 0 9) (fun z_1 =>
  if z_1 = 0 then (
  fX5_get_b16 u x1 1) else (
  fX5_get_b16 u x1 0))) := by rw [fX5_get]
theorem fX5_input_b30_e (u : TM) (x1 : Int32) (y0 : Int32) : fX5_input_b30 u x1 y0 = (
  pLet (fX5_refused u y0) (fun z_1 =>
  if z_1.1 = 0 then (
  pIn (gM_inputMany z_1.2) 32 (
  pLet (sM_inputs z_1.2 (upd (gM_inputs z_1.2) ((gM_inputMany z_1.2)).toNatClampNeg x1)) (fun u_4 =>
  pLet (sM_inputMany u_4 ((gM_inputMany u_4) + 1)) (fun u_5 =>
  some ((gM_inputMany u_5), u_5))))) else (
  some (0, z_1.2)))) := by rw [fX5_input_b30]
theorem fX5_input_e (u : TM) (x1 : Int32) : fX5_input u x1 = (
  pLet (fX5_isIn x1 0 255) (fun z_1 =>
  if z_1 = 0 then (
  fX5_input_b30 u x1 1) else (
  if (gM_inputMany u) = 32 then (
  fX5_input_b30 u x1 2) else (
  fX5_input_b30 u x1 0)))) := by rw [fX5_input]
theorem fX5_request_b37_e (u : TM) (x1 : Int32) (y0 : Int32) : fX5_request_b37 u x1 y0 = (
  pLet (fX5_refused u y0) (fun z_1 =>
  if z_1.1 = 0 then (
  pIn (gM_requestMany z_1.2) 16 (
  pLet (sM_requests z_1.2 (upd (gM_requests z_1.2) ((gM_requestMany z_1.2)).toNatClampNeg x1)) (fun u_4 =>
  pLet (sM_requestMany u_4 ((gM_requestMany u_4) + 1)) (fun u_5 =>
  pLet (sM_lastRequest u_5 x1) (fun u_6 =>
  some ((gM_requestMany u_6), u_6)))))) else (
  some (0, z_1.2)))) := by rw [fX5_request_b37]
theorem fX5_request_b19_e (u : TM) (x1 : Int32) : fX5_request_b19 u x1 = (
  fX5_request_b37 u x1 1) := by rw [fX5_request_b19]
theorem fX5_request_e (u : TM) (x1 : Int32) : fX5_request u x1 = (
  if x1 ≤ (gM_lastRequest u) then (
  fX5_request_b19 u x1) else (
  pIn (0 : Int32) 12 (
  if ((gM_counts u) ((0 : Int32)).toNatClampNeg) ≤ x1 then (
  if (gM_requestMany u) = 16 then (
  fX5_request_b37 u x1 2) else (
  fX5_request_b37 u x1 0)) else (
  fX5_request_b19 u x1)))) := by rw [fX5_request]
theorem fX5_room_b17_e (u : TM) (x1 : Int32) (y0 : Int32) : fX5_room_b17 u x1 y0 = (
  pLet (fX5_refused u y0) (fun z_1 =>
  if z_1.1 = 0 then (
  pLet (sM_room z_1.2 x1) (fun u_3 =>
  pB (fX5_empty u_3) (fun z_4 =>
  some z_4))) else (
  some z_1.2))) := by rw [fX5_room_b17]
theorem fX5_room_e (u : TM) (x1 : Int32) : fX5_room u x1 = (
  pLet (fX5_isIn x1 1 400) (fun z_1 =>
  if z_1 = 0 then (
  fX5_room_b17 u x1 1) else (
  fX5_room_b17 u x1 0))) := by rw [fX5_room]
theorem fX5_output_e (u : TM) (x1 : Int32) : fX5_output u x1 = (
  pLet (sM_refusal u 0) (fun u_1 =>
  pIn (10 : Int32) 12 (
  pLet (fX5_isIn x1 0 (((gM_counts u_1) ((10 : Int32)).toNatClampNeg) - 1)) (fun z_3 =>
  if z_3 = 0 then (
  some ((-1), u_1)) else (
  if 100 ≤ x1 then (
  some ((-1), u_1)) else (
  pIn x1 100 (
  some (((gM_given u_1) x1.toNatClampNeg), u_1)))))))) := by rw [fX5_output]
theorem fX5_count_b16_e (u : TM) (x1 : Int32) (y0 : Int32) : fX5_count_b16 u x1 y0 = (
  pLet (fX5_refused u y0) (fun z_1 =>
  if z_1.1 = 0 then (
  pIn x1 12 (
  some (((gM_counts z_1.2) x1.toNatClampNeg), z_1.2))) else (
  some (0, z_1.2)))) := by rw [fX5_count_b16]
theorem fX5_count_e (u : TM) (x1 : Int32) : fX5_count u x1 = (
  pLet (fX5_isIn x1 0 11) (fun z_1 =>
  if z_1 = 0 then (
  fX5_count_b16 u x1 1) else (
  fX5_count_b16 u x1 0))) := by rw [fX5_count]
