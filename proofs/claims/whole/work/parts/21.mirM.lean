def M_m_thrown (σ : St)  : Int32 := gF σ 0 0
def M_m_goes (σ : St) (p1 : Int32) (p2 : Int32) (p3 : Int32) : Int32 × St := (vb ((if p1 = 0 then 1 else (if p2 = 0 then 2 else (if p3 = 0 then 3 else 0)))) (fun (y1 : Int32) => (vb ((if (gF (sF σ 0 0 y1) 0 0) = 0 then 1 else 0)) (fun (y5 : Int32) => (y5, (sF σ 0 0 y1))))))
def M_m_below (p0 : Int32) (p1 : Int32) : Int32 := (vb ((if p0 < 0 then 0 else (if p1 ≤ p0 then 0 else 1))) (fun (y1 : Int32) => y1))
def M_m_greatest (p0 : Int32) : Int32 := (vb ((if p0 = 98 then 9 else 11)) (fun (y1 : Int32) => y1))
def M_m_isLetter (p0 : Int32) : Int32 := (vb ((if p0 = 117 then 1 else (if p0 = 98 then 1 else (if p0 = 120 then 1 else (if p0 = 97 then 1 else (if p0 = 116 then 1 else (if p0 = 105 then 1 else 0))))))) (fun (y1 : Int32) => y1))
def M_m_isHour (p0 : Int32) : Int32 := (vb ((if p0 < 0 then 0 else (if 1000000 < p0 then 0 else 1))) (fun (y1 : Int32) => y1))
def M_m_isMethod (σ : St) (p1 : Int32) : Int32 := M_m_below p1 (gF σ 0 3)
def M_m_isObject (σ : St) (p1 : Int32) : Int32 := M_m_below p1 (gF σ 0 10)
def M_m_used_h8 : Nat → Nat → Int32 → Nat → St → Int32 → Int32
  | 0, _, _, _, _, _ => 0
  | n + 1, i108, x8_3, j1, σ, p2 => (if ((nI (10 * j1)) + (gA σ 2 j1)) ≤ (nI i108) then x8_3 else (vb ((if (gA σ 3 i108) = 117 then (if (gA σ 4 i108) = p2 then (x8_3 + (gA σ 5 i108)) else x8_3) else x8_3)) (fun (y2 : Int32) => (M_m_used_h8 n (i108 + 1) y2 j1 σ p2))))
def N_m_used (σ : St) (j1 : Nat) (p2 : Int32) : Int32 := (M_m_used_h8 11 (10 * j1) 0 j1 σ p2)
def M_m_used (σ : St) (p1 : Int32) (p2 : Int32) : Int32 := N_m_used σ p1.toNatClampNeg p2
def M_m_has_h9 : Nat → Nat → Int32 → Nat → St → Int32 → Int32 → Int32
  | 0, _, _, _, _, _, _ => 0
  | n + 1, i109, x9_4, j1, σ, p2, p3 => (if ((nI (10 * j1)) + (gA σ 2 j1)) ≤ (nI i109) then x9_4 else (vb ((if x9_4 = 0 then (if (gA σ 3 i109) = p2 then (if p3 = (-1) then 1 else (if (gA σ 4 i109) = p3 then 1 else 0)) else 0) else 1)) (fun (y2 : Int32) => (M_m_has_h9 n (i109 + 1) y2 j1 σ p2 p3))))
def N_m_has (σ : St) (j1 : Nat) (p2 : Int32) (p3 : Int32) : Int32 := (M_m_has_h9 11 (10 * j1) 0 j1 σ p2 p3)
def M_m_has (σ : St) (p1 : Int32) (p2 : Int32) (p3 : Int32) : Int32 := N_m_has σ p1.toNatClampNeg p2 p3
def M_m_latest_h8 : Nat → Nat → Int32 → Nat → St → Int32 → Int32
  | 0, _, _, _, _, _ => 0
  | n + 1, i108, x8_3, j1, σ, p2 => (if ((nI (30 * j1)) + (gA σ 10 j1)) ≤ (nI i108) then x8_3 else (vb ((if (gA σ 11 i108) = p2 then (gA σ 12 i108) else x8_3)) (fun (y2 : Int32) => (M_m_latest_h8 n (i108 + 1) y2 j1 σ p2))))
def N_m_latest (σ : St) (j1 : Nat) (p2 : Int32) : Int32 := (M_m_latest_h8 31 (30 * j1) (-1) j1 σ p2)
def M_m_latest (σ : St) (p1 : Int32) (p2 : Int32) : Int32 := N_m_latest σ p1.toNatClampNeg p2
def M_m_barred_h2 : Nat → Nat → St → Nat → Nat → Int32
  | 0, _, _, _, _ => 0
  | n + 1, i102, σ, j1, j2 => (if (gA σ 8 j1) ≤ (nI i102) then (-1) else (if (M_m_has σ (nI j2) 98 (gA σ 9 ((8 * j1) + i102))) = 0 then (M_m_barred_h2 n (i102 + 1) σ j1 j2) else nI i102))
def N_m_barred (σ : St) (j1 : Nat) (j2 : Nat) : Int32 := (M_m_barred_h2 9 0 σ j1 j2)
def M_m_barred (σ : St) (p1 : Int32) (p2 : Int32) : Int32 := N_m_barred σ p1.toNatClampNeg p2.toNatClampNeg
def M_m_waits_h9 : Nat → Nat → Int32 → Nat → St → Int32 → Nat → Int32 → Int32
  | 0, _, _, _, _, _, _, _ => 0
  | n + 1, i109, x9_5, j2, σ, p3, j1, p4 => (if ((nI (10 * j2)) + (gA σ 2 j2)) ≤ (nI i109) then x9_5 else (vb ((if (gA σ 3 i109) = 97 then (if (gA σ 4 i109) = p3 then 1 else 0) else 0)) (fun (y2 : Int32) => (vb ((if x9_5 = 0 then (if y2 = 0 then 0 else (if (M_m_latest σ (nI j1) p3) = (-1) then 1 else (if ((M_m_latest σ (nI j1) p3) + (gA σ 5 i109)) ≤ p4 then 0 else 1))) else 1)) (fun (y5 : Int32) => (M_m_waits_h9 n (i109 + 1) y5 j2 σ p3 j1 p4))))))
def N_m_waits (σ : St) (j1 : Nat) (j2 : Nat) (p3 : Int32) (p4 : Int32) : Int32 := (M_m_waits_h9 11 (10 * j2) 0 j2 σ p3 j1 p4)
def M_m_waits (σ : St) (p1 : Int32) (p2 : Int32) (p3 : Int32) (p4 : Int32) : Int32 := N_m_waits σ p1.toNatClampNeg p2.toNatClampNeg p3 p4
def M_m_hasPart_h5 : Nat → Nat → Int32 → St → Nat → Int32 → Int32
  | 0, _, _, _, _, _ => 0
  | n + 1, i105, x5_3, σ, j1, p2 => (if (gA σ 8 j1) ≤ (nI i105) then x5_3 else (vb ((if x5_3 = 0 then (if (gA σ 9 ((8 * j1) + i105)) = p2 then 1 else 0) else 1)) (fun (y2 : Int32) => (M_m_hasPart_h5 n (i105 + 1) y2 σ j1 p2))))
def N_m_hasPart (σ : St) (j1 : Nat) (p2 : Int32) : Int32 := (M_m_hasPart_h5 9 0 0 σ j1 p2)
def M_m_hasPart (σ : St) (p1 : Int32) (p2 : Int32) : Int32 := N_m_hasPart σ p1.toNatClampNeg p2
def M_m_why_h164 : Nat → Nat → St → Nat → Nat → Int32
  | 0, _, _, _, _ => 0
  | n + 1, i264, σ, j3, j2 => (if 12 ≤ (nI i264) then (vb ((if (gA σ 7 ((12 * j3) + j2)) = 0 then 600 else 0)) (fun (y7 : Int32) => y7)) else (if (M_m_used σ (nI j2) (nI i264)) ≤ (gA σ 15 i264) then (M_m_why_h164 n (i264 + 1) σ j3 j2) else nI (500 + i264)))
def M_m_why_h105 : Nat → Nat → St → Nat → Nat → Nat → Int32
  | 0, _, _, _, _, _ => 0
  | n + 1, i205, σ, j3, j2, j1 => (if 10 ≤ (nI i205) then (M_m_why_h164 13 0 σ j3 j2) else (if (M_m_has σ (nI j2) 116 (-1)) = 0 then (M_m_why_h105 n (i205 + 1) σ j3 j2 j1) else (if (M_m_hasPart σ (nI j1) (nI i205)) = 0 then (M_m_why_h105 n (i205 + 1) σ j3 j2 j1) else (if (gA σ 6 ((10 * j2) + i205)) = 0 then nI (400 + i205) else (M_m_why_h105 n (i205 + 1) σ j3 j2 j1)))))
def M_m_why_h69 : Nat → Nat → St → Nat → Nat → Nat → Int32 → Int32
  | 0, _, _, _, _, _, _ => 0
  | n + 1, i169, σ, j3, j2, j1, p4 => (if 12 ≤ (nI i169) then (M_m_why_h105 11 0 σ j3 j2 j1) else (if (M_m_waits σ (nI j1) (nI j2) (nI i169) p4) = 0 then (M_m_why_h69 n (i169 + 1) σ j3 j2 j1 p4) else nI (300 + i169)))
def M_m_why_h23 : Nat → Nat → St → Nat → Nat → Nat → Int32 → Int32
  | 0, _, _, _, _, _, _ => 0
  | n + 1, i123, σ, j3, j2, j1, p4 => (if 12 ≤ (nI i123) then (M_m_why_h69 13 0 σ j3 j2 j1 p4) else (if (M_m_has σ (nI j2) 120 (nI i123)) = 0 then (M_m_why_h23 n (i123 + 1) σ j3 j2 j1 p4) else (if (M_m_latest σ (nI j1) (nI i123)) = (-1) then (M_m_why_h23 n (i123 + 1) σ j3 j2 j1 p4) else nI (200 + i123))))
def N_m_why (σ : St) (j1 : Nat) (j2 : Nat) (j3 : Nat) (p4 : Int32) : Int32 := (if (M_m_barred σ (nI j1) (nI j2)) = (-1) then (M_m_why_h23 13 0 σ j3 j2 j1 p4) else 100 + (M_m_barred σ (nI j1) (nI j2)))
def M_m_why (σ : St) (p1 : Int32) (p2 : Int32) (p3 : Int32) (p4 : Int32) : Int32 := N_m_why σ p1.toNatClampNeg p2.toNatClampNeg p3.toNatClampNeg p4
