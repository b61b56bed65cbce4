/-! ones, by the kernel -/
def chk (p : Nat → Bool) : Nat → Nat → Bool
  | 0, v => p v
  | d + 1, v => chk p d (Nat.mul 2 v) && chk p d (Nat.succ (Nat.mul 2 v))
theorem chk_all (p : Nat → Bool) : ∀ d v, chk p d v = true → ∀ x, x / 2 ^ d = v → p x = true
  | 0, v, h, x, e => by rw [Nat.pow_zero, Nat.div_one] at e; subst e; exact h
  | d + 1, v, h, x, e => by
    have h' : (chk p d (2 * v) && chk p d (2 * v + 1)) = true := h
    rw [Bool.and_eq_true] at h'
    rw [Nat.pow_succ, ← Nat.div_div_eq_div_mul] at e
    rcases (show x / 2 ^ d = 2 * v ∨ x / 2 ^ d = 2 * v + 1 by omega) with q | q
    · exact chk_all p d _ h'.1 x q
    · exact chk_all p d _ h'.2 x q
def r1 (v : Nat) : Nat := Nat.sub v (Nat.land (Nat.div v 2) 1431655765)
def r2 (t : Nat) : Nat := Nat.add (Nat.land t 858993459) (Nat.land (Nat.div t 4) 858993459)
def r3 (t : Nat) : Nat := Nat.land (Nat.add t (Nat.div t 16)) 252645135
def r4 (t : Nat) : Nat := Nat.add t (Nat.div t 256)
def r5 (t : Nat) : Nat := Nat.add t (Nat.div t 65536)
def pcR (v : Nat) : Nat := Nat.land (r5 (r4 (r3 (r2 (r1 v))))) 63
def onT (v s p : Nat) : Nat := Nat.add s (Nat.mod (Nat.div v p) 2)
def onR (v : Nat) : Nat := onT v (onT v (onT v (onT v (onT v (onT v (onT v (onT v (onT v (onT v (onT v (onT v (onT v (onT v (onT v (onT v 0 1) 2) 4) 8) 16) 32) 64) 128) 256) 512) 1024) 2048) 4096) 8192) 16384) 32768
set_option maxRecDepth 100000 in
theorem bc_ok : chk (fun v => Nat.beq (pcR v) (onR v) && (Nat.beq v 0 || Nat.ble 1 (pcR v))) 16 0 = true := by decide +kernel
def nz (d : Nat) : Nat := Nat.sub 1 (Nat.sub 1 d)
def dgT (x s p : Nat) : Nat := Nat.add s (nz (Nat.mod (Nat.div x p) 4))
def dgR (x : Nat) : Nat := dgT x (dgT x (dgT x (dgT x (dgT x (dgT x (dgT x (dgT x 0 1) 4) 16) 64) 256) 1024) 4096) 16384
set_option maxRecDepth 100000 in
theorem dg_ok : chk (fun x => Nat.beq (pcR (Nat.land (Nat.lor x (Nat.div x 2)) 21845)) (dgR x)) 16 0 = true := by decide +kernel
