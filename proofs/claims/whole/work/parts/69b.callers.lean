/-! what the law's callers do, as pictures -/
def F_L_begin (Z0 : ZT) (g0 : Nat → Int64) (v1 : Int32) : Option (Int32 × ZT × (Nat → Int64)) :=
  (F_X4_begin Z0 v1).bind fun t => match t with
    | .inl E => if E = "java/lang/IllegalArgumentException" then some (1, Z0, g0) else none
    | .inr (w, Z) => some (0, Z, vp_updL g0 0 w.toInt64)
def F_L_setLimit (Z0 : ZT) (g0 : Nat → Int64) (v1 : Int32) : Option (Int32 × ZT × (Nat → Int64)) :=
  (F_X4_setLimit Z0 v1).bind fun t => match t with
    | .inl E => if E = "java/lang/IllegalArgumentException" then some (1, Z0, g0) else none
    | .inr (w, Z) => some (0, Z, vp_updL g0 0 w.toInt64)
def F_L_tell (Z0 : ZT) (g0 : Nat → Int64) (v1 : Int32) (v2 : Int32) (v3 : Int32) : Option (Int32 × ZT × (Nat → Int64)) :=
  (F_X4_tell Z0 v1 v2 v3).bind fun t => match t with
    | .inl E => if E = "java/lang/IllegalArgumentException" then some (1, Z0, g0) else if E = "java/lang/IllegalStateException" then some (2, Z0, g0) else none
    | .inr (w, Z) => some (0, Z, vp_updL g0 0 w.toInt64)
def F_L_hide (Z0 : ZT) (g0 : Nat → Int64) (v1 : Int32) (v2 : Int32) : Option (Int32 × ZT × (Nat → Int64)) :=
  (F_X4_hide Z0 v1 v2).bind fun t => match t with
    | .inl E => if E = "java/lang/IndexOutOfBoundsException" then some (1, Z0, g0) else if E = "java/lang/IllegalArgumentException" then some (2, Z0, g0) else none
    | .inr (w, Z) => some (0, Z, vp_updL g0 0 w.toInt64)
def F_L_ask (Z0 : ZT) (g0 : Nat → Int64) (v1 : Int32) (v2 : Int32) : Option (Int32 × ZT × (Nat → Int64)) :=
  (F_X4_ask Z0 v1 v2).bind fun t => match t with
    | .inl E => if E = "java/lang/IllegalArgumentException" then some (1, Z0, g0) else if E = "java/lang/IllegalStateException" then some (2, Z0, g0) else none
    | .inr (w, Z) => some (0, Z, vp_updL g0 0 w.toInt64)
def F_L_add (Z0 : ZT) (g0 : Nat → Int64) (v1 : Int32) (v2 : Int32) : Option (Int32 × ZT × (Nat → Int64)) :=
  (F_X4_add Z0 v1 v2).bind fun t => match t with
    | .inl E => if E = "java/lang/IllegalArgumentException" then some (1, Z0, g0) else if E = "java/lang/IllegalStateException" then some (2, Z0, g0) else none
    | .inr (w, Z) => some (0, Z, vp_updL g0 0 w.toInt64)
def F_L_removeLast (Z0 : ZT) (g0 : Nat → Int64) : Option (Int32 × ZT × (Nat → Int64)) :=
  (F_X4_removeLast Z0).bind fun t => match t with
    | .inl E => if E = "java/lang/IllegalStateException" then some (1, Z0, g0) else none
    | .inr (w, Z) => some (0, Z, vp_updL g0 0 w.toInt64)
def F_L_lies (Z0 : ZT) (g0 : Nat → Int64) (v1 : Int32) : Option (Int32 × ZT × (Nat → Int64)) :=
  (F_X4_lies Z0 v1).bind fun t => match t with
    | .inl E => if E = "java/lang/IndexOutOfBoundsException" then some (1, Z0, g0) else none
    | .inr (w, Z) => some (0, Z, vp_updL g0 0 w.toInt64)
def F_L_answer (Z0 : ZT) (g0 : Nat → Int64) (v1 : Int32) (v2 : Int32) (v3 : Int32) : Option (Int32 × ZT × (Nat → Int64)) :=
  (F_X4_answer Z0 v1 v2 v3).bind fun t => match t with
    | .inl E => if E = "java/lang/IndexOutOfBoundsException" then some (1, Z0, g0) else if E = "java/lang/IllegalArgumentException" then some (2, Z0, g0) else none
    | .inr (w, Z) => some (0, Z, vp_updL g0 0 w.toInt64)
def F_L_leftCase (Z0 : ZT) (g0 : Nat → Int64) (v1 : Int32) : Option (Int32 × ZT × (Nat → Int64)) :=
  (F_X4_leftCase Z0 v1).bind fun t => match t with
    | .inl E => if E = "java/lang/IndexOutOfBoundsException" then some (1, Z0, g0) else none
    | .inr (w, Z) => some (0, Z, vp_updL g0 0 w.toInt64)
def F_L_weighing (Z0 : ZT) (g0 : Nat → Int64) (v1 : Int32) (v2 : Int32) : Option (Int32 × ZT × (Nat → Int64)) :=
  (F_X4_weighing Z0 v1 v2).bind fun t => match t with
    | .inl E => if E = "java/lang/IndexOutOfBoundsException" then some (1, Z0, g0) else if E = "java/lang/IllegalArgumentException" then some (2, Z0, g0) else none
    | .inr (w, Z) => some (0, Z, vp_updL g0 0 w.toInt64)
def F_L_value (Z0 : ZT) (g0 : Nat → Int64) (v1 : Int32) : Option (Int32 × ZT × (Nat → Int64)) :=
  (F_X4_value Z0 v1).bind fun t => match t with
    | .inl E => if E = "java/lang/IllegalArgumentException" then some (1, Z0, g0) else none
    | .inr (w, Z) => some (0, Z, vp_updL g0 0 w.toInt64)
def F_L_weight (Z0 : ZT) (g0 : Nat → Int64) (v1 : Int32) : Option (Int32 × ZT × (Nat → Int64)) :=
  (F_X4_weight Z0 v1).bind fun t => match t with
    | .inl E => if E = "java/lang/IllegalArgumentException" then some (1, Z0, g0) else none
    | .inr (w, Z) => some (0, Z, vp_updL g0 0 w)
def F_L_weightBehind (Z0 : ZT) (g0 : Nat → Int64) (v1 : Int32) (v2 : Int32) (v3 : Int32) (v4 : Int32) : Option (Int32 × ZT × (Nat → Int64)) :=
  (F_X4_weightBehind Z0 v1 v2 v3 v4).bind fun t => match t with
    | .inl E => if E = "java/lang/IllegalArgumentException" then some (1, Z0, g0) else none
    | .inr (w, Z) => some (0, Z, vp_updL g0 0 w)
def F_L_bestGroup (Z0 : ZT) (g0 : Nat → Int64) (v1 : Int32) : Option (Int32 × ZT × (Nat → Int64)) :=
  (F_X4_bestGroup Z0 v1).bind fun t => match t with
    | .inl E => if E = "java/lang/IllegalArgumentException" then some (1, Z0, g0) else none
    | .inr (w, Z) => some (0, Z, vp_updL g0 0 w.toInt64)
def F_L_teaches (Z0 : ZT) (g0 : Nat → Int64) (v1 : Int32) (v2 : Int32) : Option (Int32 × ZT × (Nat → Int64)) :=
  (F_X4_teaches Z0 v1 v2).bind fun t => match t with
    | .inl E => if E = "java/lang/IllegalArgumentException" then some (1, Z0, g0) else none
    | .inr (w, Z) => if w = 0 then some (0, Z, vp_updL g0 0 0) else some (0, Z, vp_updL g0 0 1)
def F_L_distance (Z0 : ZT) (g0 : Nat → Int64) (v1 : Int32) (v2 : Int32) : Option (Int32 × ZT × (Nat → Int64)) :=
  (F_X4_distance Z0 v1 v2).bind fun t => match t with
    | .inl E => if E = "java/lang/IndexOutOfBoundsException" then some (1, Z0, g0) else none
    | .inr (w, Z) => some (0, Z, vp_updL g0 0 w.toInt64)
def F_L_decode (Z0 : ZT) (g0 : Nat → Int64) (v1 : Int32) : Option (Int32 × ZT × (Nat → Int64)) :=
  (F_X4_decode Z0 v1).bind fun t => match t with
    | .inl E => if E = "java/lang/IllegalArgumentException" then some (1, Z0, g0) else none
    | .inr (w, Z) => some (0, Z, vp_updL g0 0 w.toInt64)
def F_L_append (Z0 : ZT) (g0 : Nat → Int64) (v1 : Int32) : Option (Int32 × ZT × (Nat → Int64)) :=
  (F_X4_append Z0 v1).bind fun t => match t with
    | .inl E => if E = "java/lang/IllegalArgumentException" then some (1, Z0, g0) else if E = "java/lang/IllegalStateException" then some (2, Z0, g0) else none
    | .inr (w, Z) => some (0, Z, vp_updL g0 0 w.toInt64)
def F_L_undo (Z0 : ZT) (g0 : Nat → Int64) : Option (Int32 × ZT × (Nat → Int64)) :=
  (F_X4_undo Z0).bind fun t => match t with
    | .inl E => if E = "java/lang/IllegalStateException" then some (1, Z0, g0) else none
    | .inr (w, Z) => some (0, Z, vp_updL g0 0 w.toInt64)
