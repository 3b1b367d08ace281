/-- pairs of texts that are alike -/
def xcs2 (e : XCe) : List (String × String) := match e.2.1 / 100 with
  | 0 => []
  | 1 => [(e.2.2.1.1.cls, xcn (e.2.1 % 100)), (e.2.2.1.1.desc, ((xn xds e.2.2.2.1).getD ("", 0)).1)]
  | 4 => [(e.2.2.1.1.cls, xcn (e.2.1 % 100)), (e.2.2.1.1.desc, ((xn xds e.2.2.2.1).getD ("", 0)).1)]
  | _ => [(e.2.2.1.1.cls, xcn (e.2.1 % 100)), (e.2.2.1.1.desc, ((xn xds e.2.2.2.1).getD ("", 0)).1), (e.2.2.1.1.name, "<init>")]
def xcb (e : XCe) : Bool := match e.2.1 / 100 with
  | 0 => true
  | 1 => Nat.ble e.2.2.1.2.2.1 40 && Nat.blt e.2.2.2.1 xds.length && Nat.blt (e.2.1 % 100) 14
  | 4 => Nat.ble e.2.2.1.2.2.1 40 && Nat.blt e.2.2.2.1 xds.length
  | _ => Nat.ble e.2.2.1.2.2.1 40 && Nat.blt e.2.2.2.1 xds.length && e.2.2.1.2.2.2.isNone
def xcj (e : XCe) : List Nat := match e.2.1 / 100 with
  | 3 => e.2.2.2.2.2.tail
  | _ => e.2.2.2.2.2
def xcne (own : String) (e : XCe) : List (Option Cond × Option Cond) := match e.2.1 / 100 with
  | 3 => [(xn xnestL (e.2.2.2.2.2.headD 0), some (.methodLinkNest own e.1 e.2.2.1.1 "BaledShade"))]
  | _ => []
theorem xnest_in : ∀ w ∈ xnestL, w ∈ lw_tbl := xlook_all (js := xnestJ) rfl
def xwj (X : XX) : List (List Cond × List Nat) := X.2.2.1.map (fun e => (xfw X.1 e, [e.2.2.2])) ++ X.2.2.2.1.map (fun e => (xcw X.1 e, xcj e)) ++ X.2.2.2.2.1.map (fun e => ([.constantLong X.1 e.1 e.2.1], [e.2.2])) ++ X.2.2.2.2.2.1.map (fun e => ([.constant X.1 e.1 e.2.1], [e.2.2])) ++ X.2.2.2.2.2.2.map (fun e => (xnwd X.1 e, e.2.2))
/-- a class by its number -/
def xnm : Nat → String := fun i => match i with
  | 0 => RX0
  | 1 => RX1
  | 2 => RX2
  | 3 => RX3
  | 4 => RX4
  | 5 => RX5
  | 6 => RX6
  | 7 => RX7
  | 8 => RX8
  | 9 => RX9
  | 10 => RX10
  | 11 => RX11
  | 12 => RX12
  | 95 => RJ3
  | 96 => RJ1
  | 97 => RJ0
  | 98 => RJ6
  | _ => RL
def xxB (X : XX) : Bool := X.2.2.2.2.2.2.all (fun e => Nat.blt e.2.1 13) && X.2.2.1.all xfb && X.2.2.2.1.all xcb && (xwj X).all (fun q => q.1.all goodWord)
def xxP (X : XX) : Prop := xxB X = true ∧ (∀ q ∈ xwj X, ∀ w ∈ q.1, w ∈ lw_tbl) ∧ (∀ e ∈ X.2.2.2.1, ∀ q ∈ xcs2 e, q.1 = q.2) ∧ (∀ q, xn vwCl X.2.1 = some q → q.1 = X.1) ∧ (∀ e ∈ X.2.2.2.1, ∀ q ∈ xcne X.1 e, q.1 = q.2) ∧ X.1 = xnm X.2.1
