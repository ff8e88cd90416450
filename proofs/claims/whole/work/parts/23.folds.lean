/-! ===== the reference's searches, step by step ===== -/
theorem sad_nat {r : RR} {n : Nat} (hn : n ≤ 9) (w : Int32) : ∃ S : Nat, S < 512 ∧ sad r n w = nI S := by
  obtain ⟨m, hm, e⟩ := small_of_bt (x := sad r n w) (n := 9) (by omega) (fun i h1 h2 => by rw [bt_sad hn]; have : ¬ i < n := by omega
                                                                                           simp [this])
  exact ⟨m, by omega, e⟩
theorem nst_nat {r : RR} {n : Nat} (hn : n ≤ 9) (w : Int32) : ∃ S : Nat, S < 512 ∧ nst r n w = nI S := by
  obtain ⟨m, hm, e⟩ := small_of_bt (x := nst r n w) (n := 9) (by omega) (fun i h1 h2 => by rw [bt_nst hn]; have : ¬ i < n := by omega
                                                                                           simp [this])
  exact ⟨m, by omega, e⟩
theorem all_nat {r : RR} {n : Nat} (hn : n ≤ 9) (w : Int32) : ∃ S : Nat, S < 512 ∧ nst r n w ||| sad r n w = nI S := by
  obtain ⟨m, hm, e⟩ := small_of_bt (x := nst r n w ||| sad r n w) (n := 9) (by omega) (fun i h1 h2 => by
    have : ¬ i < n := by omega
    rw [bt_or, bt_nst hn, bt_sad hn]; simp [this])
  exact ⟨m, by omega, e⟩
def moF (r : RR) (n : Nat) (inn said : Int32) : Nat → Int32
  | 0 => -9
  | m + 1 => if nI m &&& (said ^^^ (-1)) = 0 ∧ (moF r n inn said m < 0 ∨ cntN (nI m) 10 < cntN (moF r n inn said m) 10) ∧ hld r n (inn ||| nI m) = true then nI m else moF r n inn said m
def soF (r : RR) (n : Nat) (all : Int32) : Nat → Int32
  | 0 => 0
  | m + 1 => if nI m &&& (all ^^^ (-1)) = 0 ∧ ¬ sumN r (nI m) 1 n ≤ sumN r (soF r n all m) 1 n ∧ hld r n (nI m) = true then nI m else soF r n all m
def liF (r : RR) (n : Nat) (inn : Int32) : Nat → Int32
  | 0 => inn
  | m + 1 => if nI m &&& (inn ^^^ (-1)) = 0 ∧ cntN (nI m) 10 < cntN (liF r n inn m) 10 ∧ hld r n (inn &&& (nI m ^^^ (-1))) = true then nI m else liF r n inn m
def prF (r : RR) (n : Nat) (inn : Int32) : Nat → Int32
  | 0 => 0
  | t + 1 => prF r n inn t ||| (if bt inn t = true ∧ hld r n (inn &&& (((1 : Int32) <<< (nI t &&& 31)) ^^^ (-1))) = false then (1 : Int32) <<< (nI t &&& 31) else 0)
def abF (r : RR) (n : Nat) (p : Int32) : Nat → Int32 × Int32
  | 0 => (-9, -1)
  | w + 1 => if hld r n (nst r n (nI w) ||| ((1 : Int32) <<< (p &&& 31))) = true ∧ (abF r n p w).2 < sumN r (nst r n (nI w) ||| ((1 : Int32) <<< (p &&& 31))) 1 n then (nI w, sumN r (nst r n (nI w) ||| ((1 : Int32) <<< (p &&& 31))) 1 n) else abF r n p w
def knF (r : RR) (n : Nat) : Nat → Int32 × Int32
  | 0 => (0, 0)
  | w + 1 => if (knF r n w).2 < nI (cntN (nst r n (nI w) ||| sad r n (nI w)) 10) then (nI w, nI (cntN (nst r n (nI w) ||| sad r n (nI w)) 10)) else knF r n w
def loF (r : RR) (n : Nat) : Nat → Int32 × Int32
  | 0 => (-9, -1)
  | w + 1 => if ¬ nst r n (nI w) = 0 ∧ hld r n (nst r n (nI w)) = true ∧ (loF r n w).2 < sumN r (nst r n (nI w)) 1 n then (nI w, sumN r (nst r n (nI w)) 1 n) else loF r n w
def fuF (r : RR) (n : Nat) : Nat → Int32 × Int32
  | 0 => (-9, 0)
  | w + 1 => if (fuF r n w).2 < nI (cntN (nst r n (nI w)) 10) then (nI w, nI (cntN (nst r n (nI w)) 10)) else fuF r n w
def kpF (r : RR) (n K : Nat) : Nat → Int32 × Int32
  | 0 => (-9, nI (dsV r n K))
  | t + 1 => if nI (dsV (upd r 3 (nI t)) n K) < (kpF r n K t).2 then (nI t, nI (dsV (upd r 3 (nI t)) n K)) else kpF r n K t
def huF (r : RR) (n K : Nat) : Nat → Int32 × Int32
  | 0 => (-9, nI (dsV r n K))
  | t + 1 => if nI (dsV (setAb r t (-9)) n K) < (huF r n K t).2 then (nI t, nI (dsV (setAb r t (-9)) n K)) else huF r n K t
def adV (r : RR) (n K : Nat) (p : Int32) (k : Nat) : Int32 := sumN (dsR (addR r n (nI k) 9 p) (n + 1) K) (nst (dsR (addR r n (nI k) 9 p) (n + 1) K) (n + 1) p) 1 (n + 1)
def adF (r : RR) (n K : Nat) (p : Int32) : Nat → Int32 × Int32
  | 0 => (-9, -1)
  | k + 1 => if (adF r n K p k).2 < adV r n K p k then (nI k, adV r n K p k) else adF r n K p k
def sp_more (g : GG) (p : Int32) : Int32 × GG := if womB p = false then rfz g (-1) else (moF g.r g.n (nst g.r g.n p) (sad g.r g.n p) (tN (sad g.r g.n p) + 1), g)
def soA (g : GG) (p : Int32) : Int32 := soF g.r g.n (nst g.r g.n p ||| sad g.r g.n p) (tN (nst g.r g.n p ||| sad g.r g.n p) + 1)
def sp_softest (g : GG) (p w : Int32) : Int32 × GG := if womB p = false then rfz g (-1) else if isI w 0 1 = false then rfz g (-2) else if w = 0 then (soA g p, g) else (sumN g.r (soA g p) 1 g.n, g)
def sp_prop (g : GG) (p : Int32) : Int32 × GG := if womB p = false then rfz g (-1) else (prF g.r g.n (nst g.r g.n p) g.n, g)
def sp_lighten (g : GG) (p : Int32) : Int32 × GG := if womB p = false then rfz g (-1) else (liF g.r g.n (nst g.r g.n p) (tN (nst g.r g.n p) + 1), g)
def sp_about (g : GG) (p w : Int32) : Int32 × GG := if sayB g.n p = false then rfz g (-1) else if isI w 0 1 = false then rfz g (-2) else if w = 0 then ((abF g.r g.n p 4).1, g) else if (abF g.r g.n p 4).2 < 0 then (0, g) else ((abF g.r g.n p 4).2, g)
def sp_known (g : GG) : Int32 × GG := ((knF g.r g.n 4).1, g)
def sp_lodge (g : GG) : Int32 × GG := ((loF g.r g.n 4).1, g)
def sp_fullest (g : GG) : Int32 × GG := ((fuF g.r g.n 4).1, g)
def sp_talk (g : GG) : Int32 × GG := (((1 : Int32) <<< (nI g.n &&& 31) - 1) &&& (inS g.r g.n ^^^ (-1)), g)
def sp_keep (g : GG) (k : Int32) : Int32 × GG := if ¬ wrB k 1 60 = 0 then rfz g (wrB k 1 60) else ((kpF g.r g.n (tN k) g.n).1, g)
def sp_hush (g : GG) (k : Int32) : Int32 × GG := if ¬ wrB k 1 60 = 0 then rfz g (wrB k 1 60) else ((huF g.r g.n (tN k) g.n).1, g)
def sp_add (g : GG) (p k w : Int32) : Int32 × GG := if womB p = false then rfz g (-1) else if ¬ wrB k 0 60 = 0 then rfz g (wrB k 0 60) else if isI w 0 1 = false then rfz g (-2) else if g.n = 9 then (-9, g) else if w = 0 then ((adF g.r g.n (tN k) p 6).1, g) else ((adF g.r g.n (tN k) p 6).2, g)
