theorem zNr_uNr (σ : St) (n : Nat) : zNr (uNr σ n) = n := rfl
theorem zRw_uNr (σ : St) (n : Nat) : zRw (uNr σ n) = zRw σ := rfl
theorem zRn_uNr (σ : St) (n : Nat) : zRn (uNr σ n) = zRn σ := rfl
theorem zRi_uNr (σ : St) (n : Nat) : zRi (uNr σ n) = zRi σ := rfl
theorem zPl_uNr (σ : St) (n : Nat) : zPl (uNr σ n) = zPl σ := rfl
theorem zNg_uNr (σ : St) (n : Nat) : zNg (uNr σ n) = zNg σ := rfl
theorem zGk_uNr (σ : St) (n : Nat) : zGk (uNr σ n) = zGk σ := rfl
theorem zGs_uNr (σ : St) (n : Nat) : zGs (uNr σ n) = zGs σ := rfl
theorem zGa_uNr (σ : St) (n : Nat) : zGa (uNr σ n) = zGa σ := rfl
theorem zRk_uNr (σ : St) (n : Nat) : zRk (uNr σ n) = zRk σ := rfl
theorem zHk_uNr (σ : St) (n : Nat) : zHk (uNr σ n) = zHk σ := rfl
theorem zTo_uNr (σ : St) (n : Nat) : zTo (uNr σ n) = zTo σ := rfl
theorem zNr_uRw (σ : St) (a : Nat) (w : Bool) : zNr (uRw σ a w) = zNr σ := rfl
theorem zRw_uRw (σ : St) (a : Nat) (w : Bool) : zRw (uRw σ a w) = va_up (zRw σ) a w := rfl
theorem zRn_uRw (σ : St) (a : Nat) (w : Bool) : zRn (uRw σ a w) = zRn σ := rfl
theorem zRi_uRw (σ : St) (a : Nat) (w : Bool) : zRi (uRw σ a w) = zRi σ := rfl
theorem zPl_uRw (σ : St) (a : Nat) (w : Bool) : zPl (uRw σ a w) = zPl σ := rfl
theorem zNg_uRw (σ : St) (a : Nat) (w : Bool) : zNg (uRw σ a w) = zNg σ := rfl
theorem zGk_uRw (σ : St) (a : Nat) (w : Bool) : zGk (uRw σ a w) = zGk σ := rfl
theorem zGs_uRw (σ : St) (a : Nat) (w : Bool) : zGs (uRw σ a w) = zGs σ := rfl
theorem zGa_uRw (σ : St) (a : Nat) (w : Bool) : zGa (uRw σ a w) = zGa σ := rfl
theorem zRk_uRw (σ : St) (a : Nat) (w : Bool) : zRk (uRw σ a w) = zRk σ := rfl
theorem zHk_uRw (σ : St) (a : Nat) (w : Bool) : zHk (uRw σ a w) = zHk σ := rfl
theorem zTo_uRw (σ : St) (a : Nat) (w : Bool) : zTo (uRw σ a w) = zTo σ := rfl
theorem zNr_uRn (σ : St) (a n : Nat) : zNr (uRn σ a n) = zNr σ := rfl
theorem zRw_uRn (σ : St) (a n : Nat) : zRw (uRn σ a n) = zRw σ := rfl
theorem zRn_uRn (σ : St) (a n : Nat) : zRn (uRn σ a n) = va_up (zRn σ) a n := rfl
theorem zRi_uRn (σ : St) (a n : Nat) : zRi (uRn σ a n) = zRi σ := rfl
theorem zPl_uRn (σ : St) (a n : Nat) : zPl (uRn σ a n) = zPl σ := rfl
theorem zNg_uRn (σ : St) (a n : Nat) : zNg (uRn σ a n) = zNg σ := rfl
theorem zGk_uRn (σ : St) (a n : Nat) : zGk (uRn σ a n) = zGk σ := rfl
theorem zGs_uRn (σ : St) (a n : Nat) : zGs (uRn σ a n) = zGs σ := rfl
theorem zGa_uRn (σ : St) (a n : Nat) : zGa (uRn σ a n) = zGa σ := rfl
theorem zRk_uRn (σ : St) (a n : Nat) : zRk (uRn σ a n) = zRk σ := rfl
theorem zHk_uRn (σ : St) (a n : Nat) : zHk (uRn σ a n) = zHk σ := rfl
theorem zTo_uRn (σ : St) (a n : Nat) : zTo (uRn σ a n) = zTo σ := rfl
theorem zNr_uIt (σ : St) (a i : Nat) (x : Int64) : zNr (uIt σ a i x) = zNr σ := rfl
theorem zRw_uIt (σ : St) (a i : Nat) (x : Int64) : zRw (uIt σ a i x) = zRw σ := rfl
theorem zRn_uIt (σ : St) (a i : Nat) (x : Int64) : zRn (uIt σ a i x) = zRn σ := rfl
theorem zRi_uIt (σ : St) (a i : Nat) (x : Int64) : zRi (uIt σ a i x) = va_up (zRi σ) a (vp_updL (zRi σ a) i x) := rfl
theorem zPl_uIt (σ : St) (a i : Nat) (x : Int64) : zPl (uIt σ a i x) = zPl σ := rfl
theorem zNg_uIt (σ : St) (a i : Nat) (x : Int64) : zNg (uIt σ a i x) = zNg σ := rfl
theorem zGk_uIt (σ : St) (a i : Nat) (x : Int64) : zGk (uIt σ a i x) = zGk σ := rfl
theorem zGs_uIt (σ : St) (a i : Nat) (x : Int64) : zGs (uIt σ a i x) = zGs σ := rfl
theorem zGa_uIt (σ : St) (a i : Nat) (x : Int64) : zGa (uIt σ a i x) = zGa σ := rfl
theorem zRk_uIt (σ : St) (a i : Nat) (x : Int64) : zRk (uIt σ a i x) = zRk σ := rfl
theorem zHk_uIt (σ : St) (a i : Nat) (x : Int64) : zHk (uIt σ a i x) = zHk σ := rfl
theorem zTo_uIt (σ : St) (a i : Nat) (x : Int64) : zTo (uIt σ a i x) = zTo σ := rfl
theorem zNr_uPl (σ : St) (a : Nat) (v : Option Nat) : zNr (uPl σ a v) = zNr σ := rfl
theorem zRw_uPl (σ : St) (a : Nat) (v : Option Nat) : zRw (uPl σ a v) = zRw σ := rfl
theorem zRn_uPl (σ : St) (a : Nat) (v : Option Nat) : zRn (uPl σ a v) = zRn σ := rfl
theorem zRi_uPl (σ : St) (a : Nat) (v : Option Nat) : zRi (uPl σ a v) = zRi σ := rfl
theorem zPl_uPl (σ : St) (a : Nat) (v : Option Nat) : zPl (uPl σ a v) = va_up (zPl σ) a v := rfl
theorem zNg_uPl (σ : St) (a : Nat) (v : Option Nat) : zNg (uPl σ a v) = zNg σ := rfl
theorem zGk_uPl (σ : St) (a : Nat) (v : Option Nat) : zGk (uPl σ a v) = zGk σ := rfl
theorem zGs_uPl (σ : St) (a : Nat) (v : Option Nat) : zGs (uPl σ a v) = zGs σ := rfl
theorem zGa_uPl (σ : St) (a : Nat) (v : Option Nat) : zGa (uPl σ a v) = zGa σ := rfl
theorem zRk_uPl (σ : St) (a : Nat) (v : Option Nat) : zRk (uPl σ a v) = zRk σ := rfl
theorem zHk_uPl (σ : St) (a : Nat) (v : Option Nat) : zHk (uPl σ a v) = zHk σ := rfl
theorem zTo_uPl (σ : St) (a : Nat) (v : Option Nat) : zTo (uPl σ a v) = zTo σ := rfl
theorem zNr_uNg (σ : St) (n : Nat) : zNr (uNg σ n) = zNr σ := rfl
theorem zRw_uNg (σ : St) (n : Nat) : zRw (uNg σ n) = zRw σ := rfl
theorem zRn_uNg (σ : St) (n : Nat) : zRn (uNg σ n) = zRn σ := rfl
theorem zRi_uNg (σ : St) (n : Nat) : zRi (uNg σ n) = zRi σ := rfl
theorem zPl_uNg (σ : St) (n : Nat) : zPl (uNg σ n) = zPl σ := rfl
theorem zNg_uNg (σ : St) (n : Nat) : zNg (uNg σ n) = n := rfl
theorem zGk_uNg (σ : St) (n : Nat) : zGk (uNg σ n) = zGk σ := rfl
theorem zGs_uNg (σ : St) (n : Nat) : zGs (uNg σ n) = zGs σ := rfl
theorem zGa_uNg (σ : St) (n : Nat) : zGa (uNg σ n) = zGa σ := rfl
theorem zRk_uNg (σ : St) (n : Nat) : zRk (uNg σ n) = zRk σ := rfl
theorem zHk_uNg (σ : St) (n : Nat) : zHk (uNg σ n) = zHk σ := rfl
theorem zTo_uNg (σ : St) (n : Nat) : zTo (uNg σ n) = zTo σ := rfl
theorem zNr_uGk (σ : St) (a : Nat) (k : Int32) : zNr (uGk σ a k) = zNr σ := rfl
theorem zRw_uGk (σ : St) (a : Nat) (k : Int32) : zRw (uGk σ a k) = zRw σ := rfl
theorem zRn_uGk (σ : St) (a : Nat) (k : Int32) : zRn (uGk σ a k) = zRn σ := rfl
theorem zRi_uGk (σ : St) (a : Nat) (k : Int32) : zRi (uGk σ a k) = zRi σ := rfl
theorem zPl_uGk (σ : St) (a : Nat) (k : Int32) : zPl (uGk σ a k) = zPl σ := rfl
theorem zNg_uGk (σ : St) (a : Nat) (k : Int32) : zNg (uGk σ a k) = zNg σ := rfl
theorem zGk_uGk (σ : St) (a : Nat) (k : Int32) : zGk (uGk σ a k) = va_up (zGk σ) a k := rfl
theorem zGs_uGk (σ : St) (a : Nat) (k : Int32) : zGs (uGk σ a k) = zGs σ := rfl
theorem zGa_uGk (σ : St) (a : Nat) (k : Int32) : zGa (uGk σ a k) = zGa σ := rfl
theorem zRk_uGk (σ : St) (a : Nat) (k : Int32) : zRk (uGk σ a k) = zRk σ := rfl
theorem zHk_uGk (σ : St) (a : Nat) (k : Int32) : zHk (uGk σ a k) = zHk σ := rfl
theorem zTo_uGk (σ : St) (a : Nat) (k : Int32) : zTo (uGk σ a k) = zTo σ := rfl
theorem zNr_uGs (σ : St) (a : Nat) (x : Int64) : zNr (uGs σ a x) = zNr σ := rfl
theorem zRw_uGs (σ : St) (a : Nat) (x : Int64) : zRw (uGs σ a x) = zRw σ := rfl
theorem zRn_uGs (σ : St) (a : Nat) (x : Int64) : zRn (uGs σ a x) = zRn σ := rfl
theorem zRi_uGs (σ : St) (a : Nat) (x : Int64) : zRi (uGs σ a x) = zRi σ := rfl
theorem zPl_uGs (σ : St) (a : Nat) (x : Int64) : zPl (uGs σ a x) = zPl σ := rfl
theorem zNg_uGs (σ : St) (a : Nat) (x : Int64) : zNg (uGs σ a x) = zNg σ := rfl
theorem zGk_uGs (σ : St) (a : Nat) (x : Int64) : zGk (uGs σ a x) = zGk σ := rfl
theorem zGs_uGs (σ : St) (a : Nat) (x : Int64) : zGs (uGs σ a x) = va_up (zGs σ) a x := rfl
theorem zGa_uGs (σ : St) (a : Nat) (x : Int64) : zGa (uGs σ a x) = zGa σ := rfl
theorem zRk_uGs (σ : St) (a : Nat) (x : Int64) : zRk (uGs σ a x) = zRk σ := rfl
theorem zHk_uGs (σ : St) (a : Nat) (x : Int64) : zHk (uGs σ a x) = zHk σ := rfl
theorem zTo_uGs (σ : St) (a : Nat) (x : Int64) : zTo (uGs σ a x) = zTo σ := rfl
theorem zNr_uGa (σ : St) (a : Nat) (v : Option Nat) : zNr (uGa σ a v) = zNr σ := rfl
theorem zRw_uGa (σ : St) (a : Nat) (v : Option Nat) : zRw (uGa σ a v) = zRw σ := rfl
theorem zRn_uGa (σ : St) (a : Nat) (v : Option Nat) : zRn (uGa σ a v) = zRn σ := rfl
theorem zRi_uGa (σ : St) (a : Nat) (v : Option Nat) : zRi (uGa σ a v) = zRi σ := rfl
theorem zPl_uGa (σ : St) (a : Nat) (v : Option Nat) : zPl (uGa σ a v) = zPl σ := rfl
theorem zNg_uGa (σ : St) (a : Nat) (v : Option Nat) : zNg (uGa σ a v) = zNg σ := rfl
theorem zGk_uGa (σ : St) (a : Nat) (v : Option Nat) : zGk (uGa σ a v) = zGk σ := rfl
theorem zGs_uGa (σ : St) (a : Nat) (v : Option Nat) : zGs (uGa σ a v) = zGs σ := rfl
theorem zGa_uGa (σ : St) (a : Nat) (v : Option Nat) : zGa (uGa σ a v) = va_up (zGa σ) a v := rfl
theorem zRk_uGa (σ : St) (a : Nat) (v : Option Nat) : zRk (uGa σ a v) = zRk σ := rfl
theorem zHk_uGa (σ : St) (a : Nat) (v : Option Nat) : zHk (uGa σ a v) = zHk σ := rfl
theorem zTo_uGa (σ : St) (a : Nat) (v : Option Nat) : zTo (uGa σ a v) = zTo σ := rfl
theorem zNr_uRk (σ : St) (a : Nat) (k : Option Int32) : zNr (uRk σ a k) = zNr σ := rfl
theorem zRw_uRk (σ : St) (a : Nat) (k : Option Int32) : zRw (uRk σ a k) = zRw σ := rfl
theorem zRn_uRk (σ : St) (a : Nat) (k : Option Int32) : zRn (uRk σ a k) = zRn σ := rfl
theorem zRi_uRk (σ : St) (a : Nat) (k : Option Int32) : zRi (uRk σ a k) = zRi σ := rfl
theorem zPl_uRk (σ : St) (a : Nat) (k : Option Int32) : zPl (uRk σ a k) = zPl σ := rfl
theorem zNg_uRk (σ : St) (a : Nat) (k : Option Int32) : zNg (uRk σ a k) = zNg σ := rfl
theorem zGk_uRk (σ : St) (a : Nat) (k : Option Int32) : zGk (uRk σ a k) = zGk σ := rfl
theorem zGs_uRk (σ : St) (a : Nat) (k : Option Int32) : zGs (uRk σ a k) = zGs σ := rfl
theorem zGa_uRk (σ : St) (a : Nat) (k : Option Int32) : zGa (uRk σ a k) = zGa σ := rfl
theorem zRk_uRk (σ : St) (a : Nat) (k : Option Int32) : zRk (uRk σ a k) = va_up (zRk σ) a k := rfl
theorem zHk_uRk (σ : St) (a : Nat) (k : Option Int32) : zHk (uRk σ a k) = zHk σ := rfl
theorem zTo_uRk (σ : St) (a : Nat) (k : Option Int32) : zTo (uRk σ a k) = zTo σ := rfl
theorem zNr_uHk (σ : St) (a i : Nat) (v : Option Nat) : zNr (uHk σ a i v) = zNr σ := rfl
theorem zRw_uHk (σ : St) (a i : Nat) (v : Option Nat) : zRw (uHk σ a i v) = zRw σ := rfl
theorem zRn_uHk (σ : St) (a i : Nat) (v : Option Nat) : zRn (uHk σ a i v) = zRn σ := rfl
theorem zRi_uHk (σ : St) (a i : Nat) (v : Option Nat) : zRi (uHk σ a i v) = zRi σ := rfl
theorem zPl_uHk (σ : St) (a i : Nat) (v : Option Nat) : zPl (uHk σ a i v) = zPl σ := rfl
theorem zNg_uHk (σ : St) (a i : Nat) (v : Option Nat) : zNg (uHk σ a i v) = zNg σ := rfl
theorem zGk_uHk (σ : St) (a i : Nat) (v : Option Nat) : zGk (uHk σ a i v) = zGk σ := rfl
theorem zGs_uHk (σ : St) (a i : Nat) (v : Option Nat) : zGs (uHk σ a i v) = zGs σ := rfl
theorem zGa_uHk (σ : St) (a i : Nat) (v : Option Nat) : zGa (uHk σ a i v) = zGa σ := rfl
theorem zRk_uHk (σ : St) (a i : Nat) (v : Option Nat) : zRk (uHk σ a i v) = zRk σ := rfl
theorem zHk_uHk (σ : St) (a i : Nat) (v : Option Nat) : zHk (uHk σ a i v) = va_up (zHk σ) a (va_up (zHk σ a) i v) := rfl
theorem zTo_uHk (σ : St) (a i : Nat) (v : Option Nat) : zTo (uHk σ a i v) = zTo σ := rfl
theorem zNr_uTo (σ : St) (t : Int64) : zNr (uTo σ t) = zNr σ := rfl
theorem zRw_uTo (σ : St) (t : Int64) : zRw (uTo σ t) = zRw σ := rfl
theorem zRn_uTo (σ : St) (t : Int64) : zRn (uTo σ t) = zRn σ := rfl
theorem zRi_uTo (σ : St) (t : Int64) : zRi (uTo σ t) = zRi σ := rfl
theorem zPl_uTo (σ : St) (t : Int64) : zPl (uTo σ t) = zPl σ := rfl
theorem zNg_uTo (σ : St) (t : Int64) : zNg (uTo σ t) = zNg σ := rfl
theorem zGk_uTo (σ : St) (t : Int64) : zGk (uTo σ t) = zGk σ := rfl
theorem zGs_uTo (σ : St) (t : Int64) : zGs (uTo σ t) = zGs σ := rfl
theorem zGa_uTo (σ : St) (t : Int64) : zGa (uTo σ t) = zGa σ := rfl
theorem zRk_uTo (σ : St) (t : Int64) : zRk (uTo σ t) = zRk σ := rfl
theorem zHk_uTo (σ : St) (t : Int64) : zHk (uTo σ t) = zHk σ := rfl
theorem zTo_uTo (σ : St) (t : Int64) : zTo (uTo σ t) = t := rfl
theorem zNr_uZ (σ : St) (a : Nat) : zNr (uZ σ a) = zNr σ := rfl
theorem zRw_uZ (σ : St) (a : Nat) : zRw (uZ σ a) = zRw σ := rfl
theorem zRn_uZ (σ : St) (a : Nat) : zRn (uZ σ a) = zRn σ := rfl
theorem zRi_uZ (σ : St) (a : Nat) : zRi (uZ σ a) = va_up (zRi σ) a (fun _ => 0) := rfl
theorem zPl_uZ (σ : St) (a : Nat) : zPl (uZ σ a) = zPl σ := rfl
theorem zNg_uZ (σ : St) (a : Nat) : zNg (uZ σ a) = zNg σ := rfl
theorem zGk_uZ (σ : St) (a : Nat) : zGk (uZ σ a) = zGk σ := rfl
theorem zGs_uZ (σ : St) (a : Nat) : zGs (uZ σ a) = zGs σ := rfl
theorem zGa_uZ (σ : St) (a : Nat) : zGa (uZ σ a) = zGa σ := rfl
theorem zRk_uZ (σ : St) (a : Nat) : zRk (uZ σ a) = zRk σ := rfl
theorem zHk_uZ (σ : St) (a : Nat) : zHk (uZ σ a) = zHk σ := rfl
theorem zTo_uZ (σ : St) (a : Nat) : zTo (uZ σ a) = zTo σ := rfl
theorem zNr_uBare (σ : St) (a : Nat) : zNr (uBare σ a) = zNr σ := rfl
theorem zRw_uBare (σ : St) (a : Nat) : zRw (uBare σ a) = zRw σ := rfl
theorem zRn_uBare (σ : St) (a : Nat) : zRn (uBare σ a) = zRn σ := rfl
theorem zRi_uBare (σ : St) (a : Nat) : zRi (uBare σ a) = zRi σ := rfl
theorem zPl_uBare (σ : St) (a : Nat) : zPl (uBare σ a) = zPl σ := rfl
theorem zNg_uBare (σ : St) (a : Nat) : zNg (uBare σ a) = zNg σ := rfl
theorem zGk_uBare (σ : St) (a : Nat) : zGk (uBare σ a) = zGk σ := rfl
theorem zGs_uBare (σ : St) (a : Nat) : zGs (uBare σ a) = zGs σ := rfl
theorem zGa_uBare (σ : St) (a : Nat) : zGa (uBare σ a) = zGa σ := rfl
theorem zRk_uBare (σ : St) (a : Nat) : zRk (uBare σ a) = zRk σ := rfl
theorem zHk_uBare (σ : St) (a : Nat) : zHk (uBare σ a) = va_up (zHk σ) a (fun _ => none) := rfl
theorem zTo_uBare (σ : St) (a : Nat) : zTo (uBare σ a) = zTo σ := rfl
