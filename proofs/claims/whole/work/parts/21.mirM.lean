def M_m_thrown (σ : St)  : Int32 := gF σ 0 0
def M_m_goes (σ : St) (p1 : Int32) (p2 : Int32) (p3 : Int32) : Int32 × St := (vb ((if p1 = 0 then 1 else (if p2 = 0 then 2 else (if p3 = 0 then 3 else 0)))) (fun (y1 : Int32) => (vb ((if (gF (sF σ 0 0 y1) 0 0) = 0 then 1 else 0)) (fun (y5 : Int32) => (y5, (sF σ 0 0 y1))))))
def M_m_below (p0 : Int32) (p1 : Int32) : Int32 := (vb ((if p0 < 0 then 0 else (if p1 ≤ p0 then 0 else 1))) (fun (y1 : Int32) => y1))
def M_m_greatest (p0 : Int32) : Int32 := (vb ((if p0 = 98 then 9 else 11)) (fun (y1 : Int32) => y1))
def M_m_isLetter (p0 : Int32) : Int32 := (vb ((if p0 = 117 then 1 else (if p0 = 98 then 1 else (if p0 = 120 then 1 else (if p0 = 97 then 1 else (if p0 = 116 then 1 else (if p0 = 105 then 1 else 0))))))) (fun (y1 : Int32) => y1))
def M_m_isHour (p0 : Int32) : Int32 := (vb ((if p0 < 0 then 0 else (if 1000000 < p0 then 0 else 1))) (fun (y1 : Int32) => y1))
def M_m_isMethod (σ : St) (p1 : Int32) : Int32 := M_m_below p1 (gF σ 0 3)
def M_m_isObject (σ : St) (p1 : Int32) : Int32 := M_m_below p1 (gF σ 0 10)
def M_m_used_h8 : Nat → Nat → Int32 → Nat → St → Int32 → Int32
  | 0, _, _, _, _, _ => 0
  | n + 1, i108, x8_3, j1, σ, p2 => (if ((nI (10 * j1)) + (gA σ 2 j1)) ≤ (nI i108) then x8_3 else (vb ((if (gA σ 3 i108) = 117 then (if (gA σ 4 i108) = p2 then (x8_3 + (gA σ 5 i108)) else x8_3) else x8_3)) (fun (y2 : Int32) => (M_m_used_h8 n (i108 + 1) y2 j1 σ p2))))
def N_m_used (σ : St) (j1 : Nat) (p2 : Int32) : Int32 := (M_m_used_h8 11 (10 * j1) 0 j1 σ p2)
def M_m_used (σ : St) (p1 : Int32) (p2 : Int32) : Int32 := N_m_used σ p1.toNatClampNeg p2
def M_m_has_h9 : Nat → Nat → Int32 → Nat → St → Int32 → Int32 → Int32
  | 0, _, _, _, _, _, _ => 0
  | n + 1, i109, x9_4, j1, σ, p2, p3 => (if ((nI (10 * j1)) + (gA σ 2 j1)) ≤ (nI i109) then x9_4 else (vb ((if x9_4 = 0 then (if (gA σ 3 i109) = p2 then (if p3 = (-1) then 1 else (if (gA σ 4 i109) = p3 then 1 else 0)) else 0) else 1)) (fun (y2 : Int32) => (M_m_has_h9 n (i109 + 1) y2 j1 σ p2 p3))))
def N_m_has (σ : St) (j1 : Nat) (p2 : Int32) (p3 : Int32) : Int32 := (M_m_has_h9 11 (10 * j1) 0 j1 σ p2 p3)
def M_m_has (σ : St) (p1 : Int32) (p2 : Int32) (p3 : Int32) : Int32 := N_m_has σ p1.toNatClampNeg p2 p3
def M_m_latest_h8 : Nat → Nat → Int32 → Nat → St → Int32 → Int32
  | 0, _, _, _, _, _ => 0
  | n + 1, i108, x8_3, j1, σ, p2 => (if ((nI (30 * j1)) + (gA σ 10 j1)) ≤ (nI i108) then x8_3 else (vb ((if (gA σ 11 i108) = p2 then (gA σ 12 i108) else x8_3)) (fun (y2 : Int32) => (M_m_latest_h8 n (i108 + 1) y2 j1 σ p2))))
def N_m_latest (σ : St) (j1 : Nat) (p2 : Int32) : Int32 := (M_m_latest_h8 31 (30 * j1) (-1) j1 σ p2)
def M_m_latest (σ : St) (p1 : Int32) (p2 : Int32) : Int32 := N_m_latest σ p1.toNatClampNeg p2
def M_m_barred_h2 : Nat → Nat → St → Nat → Nat → Int32
  | 0, _, _, _, _ => 0
  | n + 1, i102, σ, j1, j2 => (if (gA σ 8 j1) ≤ (nI i102) then (-1) else (if (M_m_has σ (nI j2) 98 (gA σ 9 ((8 * j1) + i102))) = 0 then (M_m_barred_h2 n (i102 + 1) σ j1 j2) else nI i102))
def N_m_barred (σ : St) (j1 : Nat) (j2 : Nat) : Int32 := (M_m_barred_h2 9 0 σ j1 j2)
def M_m_barred (σ : St) (p1 : Int32) (p2 : Int32) : Int32 := N_m_barred σ p1.toNatClampNeg p2.toNatClampNeg
def M_m_waits_h9 : Nat → Nat → Int32 → Nat → St → Int32 → Nat → Int32 → Int32
  | 0, _, _, _, _, _, _, _ => 0
  | n + 1, i109, x9_5, j2, σ, p3, j1, p4 => (if ((nI (10 * j2)) + (gA σ 2 j2)) ≤ (nI i109) then x9_5 else (vb ((if (gA σ 3 i109) = 97 then (if (gA σ 4 i109) = p3 then 1 else 0) else 0)) (fun (y2 : Int32) => (vb ((if x9_5 = 0 then (if y2 = 0 then 0 else (if (M_m_latest σ (nI j1) p3) = (-1) then 1 else (if ((M_m_latest σ (nI j1) p3) + (gA σ 5 i109)) ≤ p4 then 0 else 1))) else 1)) (fun (y5 : Int32) => (M_m_waits_h9 n (i109 + 1) y5 j2 σ p3 j1 p4))))))
def N_m_waits (σ : St) (j1 : Nat) (j2 : Nat) (p3 : Int32) (p4 : Int32) : Int32 := (M_m_waits_h9 11 (10 * j2) 0 j2 σ p3 j1 p4)
def M_m_waits (σ : St) (p1 : Int32) (p2 : Int32) (p3 : Int32) (p4 : Int32) : Int32 := N_m_waits σ p1.toNatClampNeg p2.toNatClampNeg p3 p4
def M_m_hasPart_h5 : Nat → Nat → Int32 → St → Nat → Int32 → Int32
  | 0, _, _, _, _, _ => 0
  | n + 1, i105, x5_3, σ, j1, p2 => (if (gA σ 8 j1) ≤ (nI i105) then x5_3 else (vb ((if x5_3 = 0 then (if (gA σ 9 ((8 * j1) + i105)) = p2 then 1 else 0) else 1)) (fun (y2 : Int32) => (M_m_hasPart_h5 n (i105 + 1) y2 σ j1 p2))))
def N_m_hasPart (σ : St) (j1 : Nat) (p2 : Int32) : Int32 := (M_m_hasPart_h5 9 0 0 σ j1 p2)
def M_m_hasPart (σ : St) (p1 : Int32) (p2 : Int32) : Int32 := N_m_hasPart σ p1.toNatClampNeg p2
def M_m_why_h164 : Nat → Nat → St → Nat → Nat → Int32
  | 0, _, _, _, _ => 0
  | n + 1, i264, σ, j3, j2 => (if 12 ≤ (nI i264) then (vb ((if (gA σ 7 ((12 * j3) + j2)) = 0 then 600 else 0)) (fun (y7 : Int32) => y7)) else (if (M_m_used σ (nI j2) (nI i264)) ≤ (gA σ 15 i264) then (M_m_why_h164 n (i264 + 1) σ j3 j2) else nI (500 + i264)))
def M_m_why_h105 : Nat → Nat → St → Nat → Nat → Nat → Int32
  | 0, _, _, _, _, _ => 0
  | n + 1, i205, σ, j3, j2, j1 => (if 10 ≤ (nI i205) then (M_m_why_h164 13 0 σ j3 j2) else (if (M_m_has σ (nI j2) 116 (-1)) = 0 then (M_m_why_h105 n (i205 + 1) σ j3 j2 j1) else (if (M_m_hasPart σ (nI j1) (nI i205)) = 0 then (M_m_why_h105 n (i205 + 1) σ j3 j2 j1) else (if (gA σ 6 ((10 * j2) + i205)) = 0 then nI (400 + i205) else (M_m_why_h105 n (i205 + 1) σ j3 j2 j1)))))
def M_m_why_h69 : Nat → Nat → St → Nat → Nat → Nat → Int32 → Int32
  | 0, _, _, _, _, _, _ => 0
  | n + 1, i169, σ, j3, j2, j1, p4 => (if 12 ≤ (nI i169) then (M_m_why_h105 11 0 σ j3 j2 j1) else (if (M_m_waits σ (nI j1) (nI j2) (nI i169) p4) = 0 then (M_m_why_h69 n (i169 + 1) σ j3 j2 j1 p4) else nI (300 + i169)))
def M_m_why_h23 : Nat → Nat → St → Nat → Nat → Nat → Int32 → Int32
  | 0, _, _, _, _, _, _ => 0
  | n + 1, i123, σ, j3, j2, j1, p4 => (if 12 ≤ (nI i123) then (M_m_why_h69 13 0 σ j3 j2 j1 p4) else (if (M_m_has σ (nI j2) 120 (nI i123)) = 0 then (M_m_why_h23 n (i123 + 1) σ j3 j2 j1 p4) else (if (M_m_latest σ (nI j1) (nI i123)) = (-1) then (M_m_why_h23 n (i123 + 1) σ j3 j2 j1 p4) else nI (200 + i123))))
def N_m_why (σ : St) (j1 : Nat) (j2 : Nat) (j3 : Nat) (p4 : Int32) : Int32 := (if (M_m_barred σ (nI j1) (nI j2)) = (-1) then (M_m_why_h23 13 0 σ j3 j2 j1 p4) else 100 + (M_m_barred σ (nI j1) (nI j2)))
def M_m_why (σ : St) (p1 : Int32) (p2 : Int32) (p3 : Int32) (p4 : Int32) : Int32 := N_m_why σ p1.toNatClampNeg p2.toNatClampNeg p3.toNatClampNeg p4
def M_m_unit (σ : St) (p1 : Int32) : Int32 × St := (vb ((if 50 ≤ (gF σ 0 1) then 0 else 1)) (fun (y1 : Int32) => (vb ((if p1 < 33 then 0 else (if 126 < p1 then 0 else 1))) (fun (y3 : Int32) => (pb (M_m_goes σ y1 y3 1) (fun r6 σ7 => (if r6 = 0 then (0, σ7) else (gF (sF (sA σ7 1 (gF σ7 0 1).toNatClampNeg p1) 0 1 ((gF (sA σ7 1 (gF σ7 0 1).toNatClampNeg p1) 0 1) + 1)) 0 1, (sF (sA σ7 1 (gF σ7 0 1).toNatClampNeg p1) 0 1 ((gF (sA σ7 1 (gF σ7 0 1).toNatClampNeg p1) 0 1) + 1))))))))))
def M_m_uses (σ : St) (p1 : Int32) (p2 : Int32) : Int32 × St := (vb ((if (M_m_isMethod σ p1) = 0 then 0 else (if (M_m_below p2 12) = 0 then 0 else 1))) (fun (y2 : Int32) => (pb (M_m_goes σ y2 1 1) (fun r6 σ7 => (vb ((if r6 = 0 then 0 else (M_m_used σ7 p1 p2))) (fun (y8 : Int32) => (y8, σ7)))))))
def M_m_object (σ : St)  : Int32 × St := (vb ((if 10 ≤ (gF σ 0 10) then 0 else 1)) (fun (y1 : Int32) => (pb (M_m_goes σ y1 1 1) (fun r3 σ4 => (if r3 = 0 then (0, σ4) else ((gF (sF σ4 0 10 ((gF σ4 0 10) + 1)) 0 10) - 1, (sF σ4 0 10 ((gF σ4 0 10) + 1))))))))
def M_m_part (σ : St) (p1 : Int32) (p2 : Int32) : Int32 × St := (vb ((if (M_m_isObject σ p1) = 0 then 0 else (if (M_m_below p2 10) = 0 then 0 else 1))) (fun (y2 : Int32) => (vb ((if y2 = 0 then 0 else (if 8 ≤ (gA σ 8 p1.toNatClampNeg) then 0 else 1))) (fun (y6 : Int32) => (pb (M_m_goes σ y2 y6 1) (fun r9 σ10 => (if r9 = 0 then (0, σ10) else ((gA (sA (sA σ10 9 ((8 * p1) + (gA σ10 8 p1.toNatClampNeg)).toNatClampNeg p2) 8 p1.toNatClampNeg ((gA (sA σ10 9 ((8 * p1) + (gA σ10 8 p1.toNatClampNeg)).toNatClampNeg p2) 8 p1.toNatClampNeg) + 1)) 8 p1.toNatClampNeg) - 1, (sA (sA σ10 9 ((8 * p1) + (gA σ10 8 p1.toNatClampNeg)).toNatClampNeg p2) 8 p1.toNatClampNeg ((gA (sA σ10 9 ((8 * p1) + (gA σ10 8 p1.toNatClampNeg)).toNatClampNeg p2) 8 p1.toNatClampNeg) + 1))))))))))
def M_m_right (σ : St) (p1 : Int32) (p2 : Int32) (p3 : Int32) : Int32 × St := (vb ((if (M_m_below p1 8) = 0 then 0 else (if (M_m_isMethod σ p2) = 0 then 0 else 1))) (fun (y2 : Int32) => (pb (M_m_goes σ y2 1 1) (fun r6 σ7 => (if r6 = 0 then (0, σ7) else (vb ((if (gA σ7 7 ((12 * p1) + p2).toNatClampNeg) = p3 then 0 else 1)) (fun (y9 : Int32) => (y9, (sA σ7 7 ((12 * p1) + p2).toNatClampNeg p3)))))))))
def M_m_trial (σ : St) (p1 : Int32) (p2 : Int32) (p3 : Int32) : Int32 × St := (vb ((if (M_m_isMethod σ p1) = 0 then 0 else (if (M_m_below p2 10) = 0 then 0 else 1))) (fun (y2 : Int32) => (pb (M_m_goes σ y2 1 1) (fun r6 σ7 => (if r6 = 0 then (0, σ7) else (gA σ7 6 ((10 * p1) + p2).toNatClampNeg, (sA σ7 6 ((10 * p1) + p2).toNatClampNeg p3)))))))
def M_m_reason (σ : St) (p1 : Int32) (p2 : Int32) (p3 : Int32) (p4 : Int32) : Int32 × St := (vb ((if (M_m_isObject σ p1) = 0 then 0 else (if (M_m_isMethod σ p2) = 0 then 0 else (if (M_m_below p3 8) = 0 then 0 else 1)))) (fun (y2 : Int32) => (pb (M_m_goes σ y2 (M_m_isHour p4) 1) (fun r9 σ10 => (vb ((if r9 = 0 then 0 else (M_m_why σ10 p1 p2 p3 p4))) (fun (y11 : Int32) => (y11, σ10)))))))
def M_m_row (σ : St) (p1 : Int32) (p2 : Int32) (p3 : Int32) : Int32 × St := (vb ((if (M_m_isObject σ p1) = 0 then 0 else (if p2 < (-1) then 0 else (if p3 < 0 then 0 else (if 3 < p3 then 0 else 1))))) (fun (y2 : Int32) => (vb ((if y2 = 0 then 0 else (if (gA σ 10 p1.toNatClampNeg) ≤ p2 then 0 else 1))) (fun (y7 : Int32) => (pb (M_m_goes σ y7 1 1) (fun r10 σ11 => (if r10 = 0 then (0, σ11) else (vb ((if p2 = (-1) then (gA σ11 10 p1.toNatClampNeg) else (if p3 = 0 then (gA σ11 11 ((30 * p1) + p2).toNatClampNeg) else (if p3 = 1 then (gA σ11 12 ((30 * p1) + p2).toNatClampNeg) else (if p3 = 2 then (gA σ11 13 ((30 * p1) + p2).toNatClampNeg) else (gA σ11 14 ((30 * p1) + p2).toNatClampNeg)))))) (fun (y13 : Int32) => (y13, σ11))))))))))
def M_m_stock (σ : St) (p1 : Int32) (p2 : Int32) : Int32 × St := (vb ((if p2 < (-1000000) then 0 else (if 1000000 < p2 then 0 else 1))) (fun (y2 : Int32) => (pb (M_m_goes σ (M_m_below p1 12) y2 1) (fun r5 σ6 => (if r5 = 0 then (0, σ6) else (if ((gA σ6 15 p1.toNatClampNeg) + p2) < 0 then ((-1), σ6) else (if ((gA σ6 15 p1.toNatClampNeg) + p2) ≤ 1000000 then (vb ((if p2 ≤ 0 then (gL (sA σ6 15 p1.toNatClampNeg ((gA σ6 15 p1.toNatClampNeg) + p2)) 16 p1.toNatClampNeg) else ((gL (sA σ6 15 p1.toNatClampNeg ((gA σ6 15 p1.toNatClampNeg) + p2)) 16 p1.toNatClampNeg) + p2.toInt64))) (fun (y10 : Int64) => (vb ((if 0 ≤ p2 then (gL (sL (sA σ6 15 p1.toNatClampNeg ((gA σ6 15 p1.toNatClampNeg) + p2)) 16 p1.toNatClampNeg y10) 17 p1.toNatClampNeg) else ((gL (sL (sA σ6 15 p1.toNatClampNeg ((gA σ6 15 p1.toNatClampNeg) + p2)) 16 p1.toNatClampNeg y10) 17 p1.toNatClampNeg) - p2.toInt64))) (fun (y12 : Int64) => ((gA σ6 15 p1.toNatClampNeg) + p2, (sL (sL (sA σ6 15 p1.toNatClampNeg ((gA σ6 15 p1.toNatClampNeg) + p2)) 16 p1.toNatClampNeg y10) 17 p1.toNatClampNeg y12)))))) else ((-1), σ6))))))))
def M_m_about (σ : St) (p1 : Int32) (p2 : Int32) : Int64 × St := (vb ((if (M_m_below p1 12) = 0 then 0 else (if p2 < 0 then 0 else (if 3 < p2 then 0 else 1)))) (fun (y2 : Int32) => (pb (M_m_goes σ y2 1 1) (fun r6 σ7 => (if r6 = 0 then (0, σ7) else (vb ((if p2 = 0 then ((gA σ7 15 p1.toNatClampNeg).toInt64) else (if p2 = 1 then (gL σ7 16 p1.toNatClampNeg) else (if p2 = 2 then (gL σ7 17 p1.toNatClampNeg) else ((gA σ7 18 p1.toNatClampNeg).toInt64))))) (fun (y9 : Int64) => (y9, σ7))))))))
def M_m_apart (σ : St) (p1 : Int32) (p2 : Int32) : Int32 × St := (vb ((if (M_m_below p1 12) = 0 then 0 else (if (M_m_below p2 12) = 0 then 0 else 1))) (fun (y2 : Int32) => (pb (M_m_goes σ y2 1 1) (fun r6 σ7 => (if r6 = 0 then (0, σ7) else (if p1 = p2 then (0, σ7) else (if (gA σ7 18 p1.toNatClampNeg) = (-1) then (1, (sA (sA σ7 19 ((12 * p1) + p2).toNatClampNeg 1) 19 ((12 * p2) + p1).toNatClampNeg 1)) else (if (gA σ7 18 p1.toNatClampNeg) = (gA σ7 18 p2.toNatClampNeg) then (0, σ7) else (1, (sA (sA σ7 19 ((12 * p1) + p2).toNatClampNeg 1) 19 ((12 * p2) + p1).toNatClampNeg 1))))))))))
def M_m_put_h37 : Nat → Nat → St → Int32 → Int32 → Int32 × St
  | 0, _, τ37, _, _ => (0, τ37)
  | n + 1, i137, τ37, p1, p2 => (if 12 ≤ (nI i137) then (0, (sA τ37 18 p1.toNatClampNeg p2)) else (if p2 = (-1) then (M_m_put_h37 n (i137 + 1) τ37 p1 p2) else (if (nI i137) = p1 then (M_m_put_h37 n (i137 + 1) τ37 p1 p2) else (if (gA τ37 18 i137) = p2 then (if (gA τ37 19 ((12 * p1) + (nI i137)).toNatClampNeg) = 0 then (M_m_put_h37 n (i137 + 1) τ37 p1 p2) else (1 + (nI i137), τ37)) else (M_m_put_h37 n (i137 + 1) τ37 p1 p2)))))
def M_m_put (σ : St) (p1 : Int32) (p2 : Int32) : Int32 × St := (vb ((if (M_m_below p1 12) = 0 then 0 else (if p2 < (-1) then 0 else (if 5 < p2 then 0 else 1)))) (fun (y2 : Int32) => (pb (M_m_goes σ y2 1 1) (fun r6 σ7 => (if r6 = 0 then (0, σ7) else (M_m_put_h37 13 0 σ7 p1 p2))))))
def M_m_step (σ : St) (p1 : Int32) : Int32 × St := (pb (M_m_goes σ (M_m_below p1 (gF σ 0 23)) 1 1) (fun r2 σ3 => (vb ((if r2 = 0 then 0 else (gA σ3 20 p1.toNatClampNeg))) (fun (y4 : Int32) => (y4, σ3)))))
def M_m_count_h20 : Nat → Nat → Int32 → St → Int32 → Int32 × St
  | 0, _, _, τ20, _ => (0, τ20)
  | n + 1, i120, x20_2, τ20, p1 => (if (gF τ20 0 10) ≤ (nI i120) then (if p1 = 0 then (gF τ20 0 1, τ20) else (if p1 = 1 then (gF τ20 0 3, τ20) else (if p1 = 2 then (gF τ20 0 10, τ20) else (if p1 = 3 then (x20_2, τ20) else (gF τ20 0 23, τ20))))) else (M_m_count_h20 n (i120 + 1) (x20_2 + (gA τ20 10 i120)) τ20 p1))
def M_m_count (σ : St) (p1 : Int32) : Int32 × St := (pb (M_m_goes σ (M_m_below p1 5) 1 1) (fun r2 σ3 => (if r2 = 0 then (0, σ3) else (M_m_count_h20 11 0 0 σ3 p1))))
def M_m_mayCome_h6 : Nat → Nat → Int32 → Int32 → St → Nat → Nat → Int32
  | 0, _, _, _, _, _, _ => 0
  | n + 1, i106, x6_4, p3, σ, j1, j2 => (if 12 ≤ (nI i106) then x6_4 else (vb ((if ((p3 >>> ((nI i106) &&& 31)) &&& 1) = 1 then 1 else (if (M_m_latest σ (nI j1) (nI i106)) = (-1) then 0 else 1))) (fun (y2 : Int32) => (vb ((if x6_4 = 0 then 0 else (if (M_m_has σ (nI j2) 97 (nI i106)) = 0 then (if (M_m_has σ (nI j2) 120 (nI i106)) = 0 then 1 else (if y2 = 0 then 1 else 0)) else (if y2 = 0 then 0 else (if (M_m_has σ (nI j2) 120 (nI i106)) = 0 then 1 else (if y2 = 0 then 1 else 0)))))) (fun (y6 : Int32) => (M_m_mayCome_h6 n (i106 + 1) y6 p3 σ j1 j2))))))
def N_m_mayCome (σ : St) (j1 : Nat) (j2 : Nat) (p3 : Int32) : Int32 := (M_m_mayCome_h6 13 0 1 p3 σ j1 j2)
def M_m_mayCome (σ : St) (p1 : Int32) (p2 : Int32) (p3 : Int32) : Int32 := N_m_mayCome σ p1.toNatClampNeg p2.toNatClampNeg p3
def M_m_methodsOf_h5 : Nat → Nat → Int32 → Int32 → Int32 → St → Int32
  | 0, _, _, _, _, _ => 0
  | n + 1, i105, x5_3, p2, p1, σ => (if p2 ≤ (nI i105) then x5_3 else (vb ((if ((p1 >>> ((nI i105) &&& 31)) &&& 1) = 1 then (x5_3 ||| ((1 : Int32) <<< ((gA σ 21 i105) &&& 31))) else x5_3)) (fun (y2 : Int32) => (M_m_methodsOf_h5 n (i105 + 1) y2 p2 p1 σ))))
def M_m_methodsOf (σ : St) (p1 : Int32) (p2 : Int32) : Int32 := (M_m_methodsOf_h5 11 0 0 p2 p1 σ)
def M_m_closed_h13 : Nat → Nat → Int32 → St → Int32
  | 0, _, _, _ => 0
  | n + 1, i113, x13_2, σ => (if 144 ≤ (nI i113) then x13_2 else (vb ((if ((x13_2 >>> ((nI (i113 / 12)) &&& 31)) &&& 1) = 1 then (if (gF σ 0 3) ≤ (nI (i113 / 12)) then 0 else (if (M_m_has σ (nI (i113 / 12)) 97 (nI (i113 % 12))) = 0 then 0 else 1)) else 0)) (fun (y3 : Int32) => (vb ((if y3 = 0 then x13_2 else (x13_2 ||| ((1 : Int32) <<< ((nI (i113 % 12)) &&& 31))))) (fun (y8 : Int32) => (M_m_closed_h13 n (i113 + 1) y8 σ))))))
def M_m_closed_h4 : Nat → Nat → Int32 → St → Int32
  | 0, _, _, _ => 0
  | n + 1, i104, x4_2, σ => (if 12 ≤ (nI i104) then x4_2 else (vb (M_m_closed_h13 145 0 x4_2 σ) (fun y2 => (M_m_closed_h4 n (i104 + 1) y2 σ))))
def M_m_closed (σ : St) (p1 : Int32) : Int32 := (M_m_closed_h4 13 0 p1 σ)
def M_m_done_h198 : Nat → Nat → Int32 → Int32 → St → Int32 → Int32 → Int32 → Int32 → Int32 → Int32 × St
  | 0, _, _, _, τ198, _, _, _, _, _ => (0, τ198)
  | n + 1, i298, x198_7, x198_10, τ198, p4, p1, p2, p5, p3 => (if 12 ≤ (nI i298) then (vb ((if x198_10 = 0 then (-1) else p4)) (fun (y30 : Int32) => (0, (sA (sA (sA (sA (sA τ198 11 ((30 * p1) + x198_7).toNatClampNeg p2) 12 ((30 * p1) + x198_7).toNatClampNeg p5) 13 ((30 * p1) + x198_7).toNatClampNeg p3) 14 ((30 * p1) + x198_7).toNatClampNeg y30) 10 p1.toNatClampNeg ((gA (sA (sA (sA (sA τ198 11 ((30 * p1) + x198_7).toNatClampNeg p2) 12 ((30 * p1) + x198_7).toNatClampNeg p5) 13 ((30 * p1) + x198_7).toNatClampNeg p3) 14 ((30 * p1) + x198_7).toNatClampNeg y30) 10 p1.toNatClampNeg) + 1))))) else (M_m_done_h198 n (i298 + 1) x198_7 x198_10 (sL (sA τ198 15 i298 ((gA τ198 15 i298) - (M_m_used τ198 p2 (nI i298)))) 17 i298 ((gL (sA τ198 15 i298 ((gA τ198 15 i298) - (M_m_used τ198 p2 (nI i298)))) 17 i298) + ((M_m_used (sA τ198 15 i298 ((gA τ198 15 i298) - (M_m_used τ198 p2 (nI i298)))) p2 (nI i298)).toInt64))) p4 p1 p2 p5 p3))
def M_m_done (σ : St) (p1 : Int32) (p2 : Int32) (p3 : Int32) (p4 : Int32) (p5 : Int32) : Int32 × St := (vb ((if (M_m_isObject σ p1) = 0 then 0 else (if (M_m_isMethod σ p2) = 0 then 0 else (if (M_m_below p3 8) = 0 then 0 else (if (M_m_below p4 8) = 0 then 0 else 1))))) (fun (y2 : Int32) => (vb ((if y2 = 0 then 0 else (gA σ 10 p1.toNatClampNeg))) (fun (y10 : Int32) => (vb ((if y2 = 0 then 0 else (if y10 = 0 then 1 else (if p5 < (gA σ 12 (((30 * p1) + y10) - 1).toNatClampNeg) then 0 else 1)))) (fun (y12 : Int32) => (vb ((if 30 ≤ y10 then 0 else 1)) (fun (y16 : Int32) => (vb ((if (M_m_isHour p5) = 0 then 0 else (if y12 = 0 then 0 else 1))) (fun (y19 : Int32) => (pb (M_m_goes σ y2 y16 y19) (fun r22 σ23 => (if r22 = 0 then (0, σ23) else (if (M_m_why σ23 p1 p2 p3 p5) = 0 then (if (M_m_has σ23 p2 105 (-1)) = 0 then (M_m_done_h198 13 0 y10 (M_m_has σ23 p2 105 (-1)) σ23 p4 p1 p2 p5 p3) else (if p4 = p3 then (700, σ23) else (if (gA σ23 7 ((12 * p4) + p2).toNatClampNeg) = 0 then (700, σ23) else (M_m_done_h198 13 0 y10 (M_m_has σ23 p2 105 (-1)) σ23 p4 p1 p2 p5 p3)))) else (M_m_why σ23 p1 p2 p3 p5, σ23)))))))))))))))
