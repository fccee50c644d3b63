theorem hd_MD_oneLine : y_MD_oneLine.cls ≠ "java/lang/invoke/MethodHandle" ∧ y_MD_oneLine.cls ≠ "java/lang/invoke/VarHandle" ∧ (parseMethodDescriptor y_MD_oneLine.desc).map (fun d => d.parameters.length) = some 2 := by decide +kernel
def b_MD_oneLine_579 (zat : Int32) (zline : Int32) (zlabels : Int32) (zaddress : Int32) (zmissing : Int32) (zgood : Int32) (zvalue : Int32) (zvalueFrom : Int32) (zvalueSize : Int32) (ztape : Nat → Int32) (zlabelFrom : Nat → Int32) (zlabelSize : Nat → Int32) (zlabelAddress : Nat → Int32) (zmade : Nat → Int32) (x2 : Int32) (x7 : Int32) (x10 : Int32) : Option (Int32 × Int32 × Int32 × Int32 × Int32 × Int32 × Int32 × Int32 × Int32 × (Nat → Int32) × (Nat → Int32) × (Nat → Int32) × (Nat → Int32)) := (if x7 = (25 : Int32) then (if x2 = (0 : Int32) then ((f_MD_put zaddress zmade 0 x2).bind fun (zaddress_3, zmade_3) => (some (0, zat, zlabels, x10, zmissing, zgood, zvalue, zvalueFrom, zvalueSize, zlabelFrom, zlabelSize, zlabelAddress, zmade_3))) else ((f_MD_valued zline zlabels zmissing zvalue zvalueFrom zvalueSize ztape zlabelFrom zlabelSize zlabelAddress).bind fun (r_4, zmissing_4) => ((f_MD_put zaddress zmade r_4 x2).bind fun (zaddress_5, zmade_5) => (some (0, zat, zlabels, x10, zmissing_4, zgood, zvalue, zvalueFrom, zvalueSize, zlabelFrom, zlabelSize, zlabelAddress, zmade_5))))) else (some (0, zat, zlabels, x10, zmissing, zgood, zvalue, zvalueFrom, zvalueSize, zlabelFrom, zlabelSize, zlabelAddress, zmade)))
def b_MD_oneLine_520 (zat : Int32) (zline : Int32) (zlabels : Int32) (zaddress : Int32) (zmissing : Int32) (zgood : Int32) (zvalue : Int32) (zvalueFrom : Int32) (zvalueSize : Int32) (ztape : Nat → Int32) (zlabelFrom : Nat → Int32) (zlabelSize : Nat → Int32) (zlabelAddress : Nat → Int32) (zmade : Nat → Int32) (x1 : Int32) (x2 : Int32) (x7 : Int32) (x8 : Int32) (x9 : Int32) (x10 : Int32) : Option (Int32 × Int32 × Int32 × Int32 × Int32 × Int32 × Int32 × Int32 × Int32 × (Nat → Int32) × (Nat → Int32) × (Nat → Int32) × (Nat → Int32)) := (if x10 ≤ x1 then (if x7 < (0 : Int32) then b_MD_oneLine_579 zat zline zlabels zaddress zmissing zgood zvalue zvalueFrom zvalueSize ztape zlabelFrom zlabelSize zlabelAddress zmade x2 x7 x10 else (if (25 : Int32) ≤ x7 then b_MD_oneLine_579 zat zline zlabels zaddress zmissing zgood zvalue zvalueFrom zvalueSize ztape zlabelFrom zlabelSize zlabelAddress zmade x2 x7 x10 else ((f_MD_put zaddress zmade (((64 * x7) + (8 * x8)) + x9) x2).bind fun (zaddress_9, zmade_9) => (if x2 = (0 : Int32) then ((f_MD_put zaddress_9 zmade_9 0 x2).bind fun (zaddress_11, zmade_11) => (some (0, zat, zlabels, x10, zmissing, zgood, zvalue, zvalueFrom, zvalueSize, zlabelFrom, zlabelSize, zlabelAddress, zmade_11))) else ((f_MD_valued zline zlabels zmissing zvalue zvalueFrom zvalueSize ztape zlabelFrom zlabelSize zlabelAddress).bind fun (r_12, zmissing_12) => ((f_MD_put zaddress_9 zmade_9 r_12 x2).bind fun (zaddress_13, zmade_13) => (some (0, zat, zlabels, x10, zmissing_12, zgood, zvalue, zvalueFrom, zvalueSize, zlabelFrom, zlabelSize, zlabelAddress, zmade_13)))))))) else (some (4, zat, zlabels, zaddress, zmissing, zgood, zvalue, zvalueFrom, zvalueSize, zlabelFrom, zlabelSize, zlabelAddress, zmade)))
def b_MD_oneLine_451 (zat : Int32) (zline : Int32) (zlabels : Int32) (zaddress : Int32) (zmissing : Int32) (zgood : Int32) (zvalue : Int32) (zvalueFrom : Int32) (zvalueSize : Int32) (ztape : Nat → Int32) (zlabelFrom : Nat → Int32) (zlabelSize : Nat → Int32) (zlabelAddress : Nat → Int32) (zmade : Nat → Int32) (x1 : Int32) (x2 : Int32) (x7 : Int32) (x8 : Int32) (x9 : Int32) : Option (Int32 × Int32 × Int32 × Int32 × Int32 × Int32 × Int32 × Int32 × Int32 × (Nat → Int32) × (Nat → Int32) × (Nat → Int32) × (Nat → Int32)) := (if (0 : Int32) ≤ x7 then (if (25 : Int32) ≤ x7 then (if x7 = (25 : Int32) then b_MD_oneLine_520 zat zline zlabels zaddress zmissing zgood zvalue zvalueFrom zvalueSize ztape zlabelFrom zlabelSize zlabelAddress zmade x1 x2 x7 x8 x9 (zaddress + 1) else (if x7 = (26 : Int32) then b_MD_oneLine_520 zat zline zlabels zaddress zmissing zgood zvalue zvalueFrom zvalueSize ztape zlabelFrom zlabelSize zlabelAddress zmade x1 x2 x7 x8 x9 (zaddress + zvalue) else b_MD_oneLine_520 zat zline zlabels zaddress zmissing zgood zvalue zvalueFrom zvalueSize ztape zlabelFrom zlabelSize zlabelAddress zmade x1 x2 x7 x8 x9 zvalue)) else b_MD_oneLine_520 zat zline zlabels zaddress zmissing zgood zvalue zvalueFrom zvalueSize ztape zlabelFrom zlabelSize zlabelAddress zmade x1 x2 x7 x8 x9 (zaddress + 2)) else b_MD_oneLine_520 zat zline zlabels zaddress zmissing zgood zvalue zvalueFrom zvalueSize ztape zlabelFrom zlabelSize zlabelAddress zmade x1 x2 x7 x8 x9 zaddress)
def b_MD_oneLine_364 (zat : Int32) (zline : Int32) (zlabels : Int32) (zaddress : Int32) (zmissing : Int32) (zgood : Int32) (zvalue : Int32) (zvalueFrom : Int32) (zvalueSize : Int32) (ztape : Nat → Int32) (zlabelFrom : Nat → Int32) (zlabelSize : Nat → Int32) (zlabelAddress : Nat → Int32) (zmade : Nat → Int32) (x1 : Int32) (x2 : Int32) (x4 : Int32) (x5 : Int32) (x6 : Int32) (x7 : Int32) (x8 : Int32) (x9 : Int32) : Option (Int32 × Int32 × Int32 × Int32 × Int32 × Int32 × Int32 × Int32 × Int32 × (Nat → Int32) × (Nat → Int32) × (Nat → Int32) × (Nat → Int32)) := (if zgood = (0 : Int32) then (some (1, zat, zlabels, zaddress, zmissing, zgood, zvalue, zvalueFrom, zvalueSize, zlabelFrom, zlabelSize, zlabelAddress, zmade)) else (if x6 = (0 : Int32) then b_MD_oneLine_451 zat zline zlabels zaddress zmissing zgood zvalue zvalueFrom zvalueSize ztape zlabelFrom zlabelSize zlabelAddress zmade x1 x2 x7 x8 x9 else (if x2 = (0 : Int32) then ((f_MD_find zlabels ztape zlabelFrom zlabelSize x5 x4).bind fun r_21 => (if r_21 < (0 : Int32) then (if zlabels = (100 : Int32) then (some (3, zat, zlabels, zaddress, zmissing, zgood, zvalue, zvalueFrom, zvalueSize, zlabelFrom, zlabelSize, zlabelAddress, zmade)) else (if ck zlabels 100 then (if ck zlabels 100 then (if ck zlabels 100 then b_MD_oneLine_451 zat zline (zlabels + 1) zaddress zmissing zgood zvalue zvalueFrom zvalueSize ztape (upd zlabelFrom zlabels.toNatClampNeg x5) (upd zlabelSize zlabels.toNatClampNeg x4) (upd zlabelAddress zlabels.toNatClampNeg zaddress) zmade x1 x2 x7 x8 x9 else none) else none) else none)) else (some (2, zat, zlabels, zaddress, zmissing, zgood, zvalue, zvalueFrom, zvalueSize, zlabelFrom, zlabelSize, zlabelAddress, zmade)))) else b_MD_oneLine_451 zat zline zlabels zaddress zmissing zgood zvalue zvalueFrom zvalueSize ztape zlabelFrom zlabelSize zlabelAddress zmade x1 x2 x7 x8 x9)))
def b_MD_oneLine_334 (zat : Int32) (zline : Int32) (zlabels : Int32) (zaddress : Int32) (zmissing : Int32) (zgood : Int32) (zvalue : Int32) (zvalueFrom : Int32) (zvalueSize : Int32) (ztape : Nat → Int32) (zlabelFrom : Nat → Int32) (zlabelSize : Nat → Int32) (zlabelAddress : Nat → Int32) (zmade : Nat → Int32) (x1 : Int32) (x2 : Int32) (x4 : Int32) (x5 : Int32) (x6 : Int32) (x7 : Int32) (x8 : Int32) (x9 : Int32) : Option (Int32 × Int32 × Int32 × Int32 × Int32 × Int32 × Int32 × Int32 × Int32 × (Nat → Int32) × (Nat → Int32) × (Nat → Int32) × (Nat → Int32)) := (if zgood = (0 : Int32) then b_MD_oneLine_364 zat zline zlabels zaddress zmissing zgood zvalue zvalueFrom zvalueSize ztape zlabelFrom zlabelSize zlabelAddress zmade x1 x2 x4 x5 x6 x7 x8 x9 else (if x7 = (27 : Int32) then (if zaddress ≤ zvalue then b_MD_oneLine_364 zat zline zlabels zaddress zmissing zgood zvalue zvalueFrom zvalueSize ztape zlabelFrom zlabelSize zlabelAddress zmade x1 x2 x4 x5 x6 x7 x8 x9 else b_MD_oneLine_364 zat zline zlabels zaddress zmissing 0 zvalue zvalueFrom zvalueSize ztape zlabelFrom zlabelSize zlabelAddress zmade x1 x2 x4 x5 x6 x7 x8 x9) else b_MD_oneLine_364 zat zline zlabels zaddress zmissing zgood zvalue zvalueFrom zvalueSize ztape zlabelFrom zlabelSize zlabelAddress zmade x1 x2 x4 x5 x6 x7 x8 x9))
def b_MD_oneLine_307 (zat : Int32) (zend : Int32) (zline : Int32) (zlabels : Int32) (zaddress : Int32) (zmissing : Int32) (zgood : Int32) (zvalue : Int32) (zvalueFrom : Int32) (zvalueSize : Int32) (ztape : Nat → Int32) (zlabelFrom : Nat → Int32) (zlabelSize : Nat → Int32) (zlabelAddress : Nat → Int32) (zmade : Nat → Int32) (x1 : Int32) (x2 : Int32) (x4 : Int32) (x5 : Int32) (x6 : Int32) (x7 : Int32) (x8 : Int32) (x9 : Int32) : Option (Int32 × Int32 × Int32 × Int32 × Int32 × Int32 × Int32 × Int32 × Int32 × (Nat → Int32) × (Nat → Int32) × (Nat → Int32) × (Nat → Int32)) := ((f_MD_blanks zat zend ztape).bind fun zat_30 => (if zgood = (0 : Int32) then b_MD_oneLine_334 zat_30 zline zlabels zaddress zmissing 0 zvalue zvalueFrom zvalueSize ztape zlabelFrom zlabelSize zlabelAddress zmade x1 x2 x4 x5 x6 x7 x8 x9 else ((f_MD_isOver zat_30 zend ztape).bind fun r_32 => (if r_32 = (0 : Int32) then b_MD_oneLine_334 zat_30 zline zlabels zaddress zmissing 0 zvalue zvalueFrom zvalueSize ztape zlabelFrom zlabelSize zlabelAddress zmade x1 x2 x4 x5 x6 x7 x8 x9 else b_MD_oneLine_334 zat_30 zline zlabels zaddress zmissing 1 zvalue zvalueFrom zvalueSize ztape zlabelFrom zlabelSize zlabelAddress zmade x1 x2 x4 x5 x6 x7 x8 x9))))
def b_MD_oneLine_284 (zat : Int32) (zend : Int32) (zline : Int32) (zlabels : Int32) (zaddress : Int32) (zmissing : Int32) (zgood : Int32) (zvalue : Int32) (zvalueFrom : Int32) (zvalueSize : Int32) (ztape : Nat → Int32) (zlabelFrom : Nat → Int32) (zlabelSize : Nat → Int32) (zlabelAddress : Nat → Int32) (zmade : Nat → Int32) (x1 : Int32) (x2 : Int32) (x4 : Int32) (x5 : Int32) (x6 : Int32) (x7 : Int32) (x8 : Int32) (x9 : Int32) : Option (Int32 × Int32 × Int32 × Int32 × Int32 × Int32 × Int32 × Int32 × Int32 × (Nat → Int32) × (Nat → Int32) × (Nat → Int32) × (Nat → Int32)) := (if zgood = (0 : Int32) then b_MD_oneLine_307 zat zend zline zlabels zaddress zmissing zgood zvalue zvalueFrom zvalueSize ztape zlabelFrom zlabelSize zlabelAddress zmade x1 x2 x4 x5 x6 x7 x8 x9 else (if x7 ≤ (25 : Int32) then ((f_MD_value zat zend zgood zvalueFrom ztape 0).bind fun (zat_36, zgood_36, zvalue_36, zvalueFrom_36, zvalueSize_36) => b_MD_oneLine_307 zat_36 zend zline zlabels zaddress zmissing zgood_36 zvalue_36 zvalueFrom_36 zvalueSize_36 ztape zlabelFrom zlabelSize zlabelAddress zmade x1 x2 x4 x5 x6 x7 x8 x9) else ((f_MD_value zat zend zgood zvalueFrom ztape 1).bind fun (zat_37, zgood_37, zvalue_37, zvalueFrom_37, zvalueSize_37) => b_MD_oneLine_307 zat_37 zend zline zlabels zaddress zmissing zgood_37 zvalue_37 zvalueFrom_37 zvalueSize_37 ztape zlabelFrom zlabelSize zlabelAddress zmade x1 x2 x4 x5 x6 x7 x8 x9)))
def b_MD_oneLine_263 (zat : Int32) (zend : Int32) (zline : Int32) (zlabels : Int32) (zaddress : Int32) (zmissing : Int32) (zgood : Int32) (zvalue : Int32) (zvalueFrom : Int32) (zvalueSize : Int32) (ztape : Nat → Int32) (zwants : Nat → Int32) (zlabelFrom : Nat → Int32) (zlabelSize : Nat → Int32) (zlabelAddress : Nat → Int32) (zmade : Nat → Int32) (x1 : Int32) (x2 : Int32) (x4 : Int32) (x5 : Int32) (x6 : Int32) (x7 : Int32) (x8 : Int32) (x9 : Int32) : Option (Int32 × Int32 × Int32 × Int32 × Int32 × Int32 × Int32 × Int32 × Int32 × (Nat → Int32) × (Nat → Int32) × (Nat → Int32) × (Nat → Int32)) := (if ck x7 25 then (if ((zwants x7.toNatClampNeg) &&& 4) = (4 : Int32) then ((f_MD_value zat zend zgood zvalueFrom ztape 0).bind fun (zat_40, zgood_40, zvalue_40, zvalueFrom_40, zvalueSize_40) => b_MD_oneLine_307 zat_40 zend zline zlabels zaddress zmissing zgood_40 zvalue_40 zvalueFrom_40 zvalueSize_40 ztape zlabelFrom zlabelSize zlabelAddress zmade x1 x2 x4 x5 x6 x7 x8 x9) else b_MD_oneLine_307 zat zend zline zlabels zaddress zmissing zgood zvalue zvalueFrom zvalueSize ztape zlabelFrom zlabelSize zlabelAddress zmade x1 x2 x4 x5 x6 x7 x8 x9) else none)
def b_MD_oneLine_244 (zat : Int32) (zend : Int32) (zline : Int32) (zlabels : Int32) (zaddress : Int32) (zmissing : Int32) (zgood : Int32) (zvalue : Int32) (zvalueFrom : Int32) (zvalueSize : Int32) (ztape : Nat → Int32) (zwants : Nat → Int32) (zlabelFrom : Nat → Int32) (zlabelSize : Nat → Int32) (zlabelAddress : Nat → Int32) (zmade : Nat → Int32) (x1 : Int32) (x2 : Int32) (x4 : Int32) (x5 : Int32) (x6 : Int32) (x7 : Int32) (x8 : Int32) (x9 : Int32) : Option (Int32 × Int32 × Int32 × Int32 × Int32 × Int32 × Int32 × Int32 × Int32 × (Nat → Int32) × (Nat → Int32) × (Nat → Int32) × (Nat → Int32)) := (if ck x7 25 then (if ((zwants x7.toNatClampNeg) &&& 2) = (2 : Int32) then ((f_MD_register zat zend zgood ztape).bind fun (r_43, zat_43, zgood_43) => b_MD_oneLine_263 zat_43 zend zline zlabels zaddress zmissing zgood_43 zvalue zvalueFrom zvalueSize ztape zwants zlabelFrom zlabelSize zlabelAddress zmade x1 x2 x4 x5 x6 x7 x8 r_43) else b_MD_oneLine_263 zat zend zline zlabels zaddress zmissing zgood zvalue zvalueFrom zvalueSize ztape zwants zlabelFrom zlabelSize zlabelAddress zmade x1 x2 x4 x5 x6 x7 x8 x9) else none)
def b_MD_oneLine_211 (zat : Int32) (zend : Int32) (zline : Int32) (zlabels : Int32) (zaddress : Int32) (zmissing : Int32) (zgood : Int32) (zvalue : Int32) (zvalueFrom : Int32) (zvalueSize : Int32) (ztape : Nat → Int32) (zwants : Nat → Int32) (zlabelFrom : Nat → Int32) (zlabelSize : Nat → Int32) (zlabelAddress : Nat → Int32) (zmade : Nat → Int32) (x1 : Int32) (x2 : Int32) (x4 : Int32) (x5 : Int32) (x6 : Int32) (x7 : Int32) (x8 : Int32) (x9 : Int32) : Option (Int32 × Int32 × Int32 × Int32 × Int32 × Int32 × Int32 × Int32 × Int32 × (Nat → Int32) × (Nat → Int32) × (Nat → Int32) × (Nat → Int32)) := (if zgood = (0 : Int32) then b_MD_oneLine_284 zat zend zline zlabels zaddress zmissing zgood zvalue zvalueFrom zvalueSize ztape zlabelFrom zlabelSize zlabelAddress zmade x1 x2 x4 x5 x6 x7 x8 x9 else (if (25 : Int32) ≤ x7 then b_MD_oneLine_284 zat zend zline zlabels zaddress zmissing zgood zvalue zvalueFrom zvalueSize ztape zlabelFrom zlabelSize zlabelAddress zmade x1 x2 x4 x5 x6 x7 x8 x9 else (if ck x7 25 then (if ((zwants x7.toNatClampNeg) &&& 1) = (1 : Int32) then ((f_MD_register zat zend zgood ztape).bind fun (r_48, zat_48, zgood_48) => b_MD_oneLine_244 zat_48 zend zline zlabels zaddress zmissing zgood_48 zvalue zvalueFrom zvalueSize ztape zwants zlabelFrom zlabelSize zlabelAddress zmade x1 x2 x4 x5 x6 x7 r_48 x9) else b_MD_oneLine_244 zat zend zline zlabels zaddress zmissing zgood zvalue zvalueFrom zvalueSize ztape zwants zlabelFrom zlabelSize zlabelAddress zmade x1 x2 x4 x5 x6 x7 x8 x9) else none)))
def b_MD_oneLine_154 (zat : Int32) (zend : Int32) (zline : Int32) (zlabels : Int32) (zaddress : Int32) (zmissing : Int32) (zgood : Int32) (zvalueFrom : Int32) (ztape : Nat → Int32) (zwants : Nat → Int32) (zlabelFrom : Nat → Int32) (zlabelSize : Nat → Int32) (zlabelAddress : Nat → Int32) (zmade : Nat → Int32) (x1 : Int32) (x2 : Int32) (x4 : Int32) (x5 : Int32) (x6 : Int32) : Option (Int32 × Int32 × Int32 × Int32 × Int32 × Int32 × Int32 × Int32 × Int32 × (Nat → Int32) × (Nat → Int32) × (Nat → Int32) × (Nat → Int32)) := ((f_MD_blanks zat zend ztape).bind fun zat_49 => ((f_MD_isOver zat_49 zend ztape).bind fun r_50 => (if r_50 = (0 : Int32) then ((f_MD_order zat_49 zend ztape).bind fun (r_52, zat_52) => (if zgood = (0 : Int32) then b_MD_oneLine_211 zat_52 zend zline zlabels zaddress zmissing 0 0 zvalueFrom 0 ztape zwants zlabelFrom zlabelSize zlabelAddress zmade x1 x2 x4 x5 x6 r_52 0 0 else (if r_52 < (0 : Int32) then b_MD_oneLine_211 zat_52 zend zline zlabels zaddress zmissing 0 0 zvalueFrom 0 ztape zwants zlabelFrom zlabelSize zlabelAddress zmade x1 x2 x4 x5 x6 r_52 0 0 else b_MD_oneLine_211 zat_52 zend zline zlabels zaddress zmissing 1 0 zvalueFrom 0 ztape zwants zlabelFrom zlabelSize zlabelAddress zmade x1 x2 x4 x5 x6 r_52 0 0))) else b_MD_oneLine_334 zat_49 zline zlabels zaddress zmissing zgood 0 zvalueFrom 0 ztape zlabelFrom zlabelSize zlabelAddress zmade x1 x2 x4 x5 x6 (-1) 0 0)))
def b_MD_oneLine_136 (zat : Int32) (zend : Int32) (zline : Int32) (zlabels : Int32) (zaddress : Int32) (zmissing : Int32) (zgood : Int32) (zvalueFrom : Int32) (ztape : Nat → Int32) (zwants : Nat → Int32) (zlabelFrom : Nat → Int32) (zlabelSize : Nat → Int32) (zlabelAddress : Nat → Int32) (zmade : Nat → Int32) (x1 : Int32) (x2 : Int32) (x4 : Int32) (x5 : Int32) (x6 : Int32) : Option (Int32 × Int32 × Int32 × Int32 × Int32 × Int32 × Int32 × Int32 × Int32 × (Nat → Int32) × (Nat → Int32) × (Nat → Int32) × (Nat → Int32)) := (if x6 = (0 : Int32) then b_MD_oneLine_154 zat zend zline zlabels zaddress zmissing zgood zvalueFrom ztape zwants zlabelFrom zlabelSize zlabelAddress zmade x1 x2 x4 x5 x6 else b_MD_oneLine_154 (zat + (x4 + 1)) zend zline zlabels zaddress zmissing zgood zvalueFrom ztape zwants zlabelFrom zlabelSize zlabelAddress zmade x1 x2 x4 x5 x6)
def b_MD_oneLine_133 (zat : Int32) (zend : Int32) (zline : Int32) (zlabels : Int32) (zaddress : Int32) (zmissing : Int32) (zgood : Int32) (zvalueFrom : Int32) (ztape : Nat → Int32) (zwants : Nat → Int32) (zlabelFrom : Nat → Int32) (zlabelSize : Nat → Int32) (zlabelAddress : Nat → Int32) (zmade : Nat → Int32) (x1 : Int32) (x2 : Int32) (x4 : Int32) (x5 : Int32) : Option (Int32 × Int32 × Int32 × Int32 × Int32 × Int32 × Int32 × Int32 × Int32 × (Nat → Int32) × (Nat → Int32) × (Nat → Int32) × (Nat → Int32)) := b_MD_oneLine_136 zat zend zline zlabels zaddress zmissing zgood zvalueFrom ztape zwants zlabelFrom zlabelSize zlabelAddress zmade x1 x2 x4 x5 0
def b_MD_oneLine_88 (zat : Int32) (zend : Int32) (zline : Int32) (zlabels : Int32) (zaddress : Int32) (zmissing : Int32) (zgood : Int32) (zvalueFrom : Int32) (ztape : Nat → Int32) (zwants : Nat → Int32) (zlabelFrom : Nat → Int32) (zlabelSize : Nat → Int32) (zlabelAddress : Nat → Int32) (zmade : Nat → Int32) (x1 : Int32) (x2 : Int32) : Option (Int32 × Int32 × Int32 × Int32 × Int32 × Int32 × Int32 × Int32 × Int32 × (Nat → Int32) × (Nat → Int32) × (Nat → Int32) × (Nat → Int32)) := ((f_MD_blanks zat zend ztape).bind fun zat_56 => ((f_MD_nameAt zend ztape zat_56).bind fun r_57 => (if r_57 ≤ (0 : Int32) then b_MD_oneLine_133 zat_56 zend zline zlabels zaddress zmissing zgood zvalueFrom ztape zwants zlabelFrom zlabelSize zlabelAddress zmade x1 x2 r_57 zat_56 else ((f_MD_byteAt zend ztape (zat_56 + r_57)).bind fun r_59 => (if r_59 = (58 : Int32) then b_MD_oneLine_136 zat_56 zend zline zlabels zaddress zmissing zgood zvalueFrom ztape zwants zlabelFrom zlabelSize zlabelAddress zmade x1 x2 r_57 zat_56 1 else b_MD_oneLine_133 zat_56 zend zline zlabels zaddress zmissing zgood zvalueFrom ztape zwants zlabelFrom zlabelSize zlabelAddress zmade x1 x2 r_57 zat_56)))))
def b_MD_oneLine_13 : Nat → Int32 → Int32 → Int32 → Int32 → Int32 → Int32 → Int32 → Int32 → (Nat → Int32) → (Nat → Int32) → (Nat → Int32) → (Nat → Int32) → (Nat → Int32) → (Nat → Int32) → Int32 → Int32 → Int32 → Option (Int32 × Int32 × Int32 × Int32 × Int32 × Int32 × Int32 × Int32 × Int32 × (Nat → Int32) × (Nat → Int32) × (Nat → Int32) × (Nat → Int32))
  | 0, _, _, _, _, _, _, _, _, _, _, _, _, _, _, _, _, _ => none
  | n + 1, zat, zend, zline, zlabels, zaddress, zmissing, zgood, zvalueFrom, ztape, zwants, zlabelFrom, zlabelSize, zlabelAddress, zmade, x1, x2, x4 => (if zend ≤ x4 then b_MD_oneLine_88 zat zend zline zlabels zaddress zmissing zgood zvalueFrom ztape zwants zlabelFrom zlabelSize zlabelAddress zmade x1 x2 else (if ck x4 3000 then (if (ztape x4.toNatClampNeg) = (10 : Int32) then b_MD_oneLine_88 zat zend zline zlabels zaddress zmissing zgood zvalueFrom ztape zwants zlabelFrom zlabelSize zlabelAddress zmade x1 x2 else (if zgood = (0 : Int32) then b_MD_oneLine_13 n zat zend zline zlabels zaddress zmissing 0 zvalueFrom ztape zwants zlabelFrom zlabelSize zlabelAddress zmade x1 x2 (x4 + 1) else (if ck x4 3000 then (if ((ztape x4.toNatClampNeg) &&& 255) < (32 : Int32) then b_MD_oneLine_13 n zat zend zline zlabels zaddress zmissing 0 zvalueFrom ztape zwants zlabelFrom zlabelSize zlabelAddress zmade x1 x2 (x4 + 1) else (if ck x4 3000 then (if (127 : Int32) ≤ ((ztape x4.toNatClampNeg) &&& 255) then b_MD_oneLine_13 n zat zend zline zlabels zaddress zmissing 0 zvalueFrom ztape zwants zlabelFrom zlabelSize zlabelAddress zmade x1 x2 (x4 + 1) else b_MD_oneLine_13 n zat zend zline zlabels zaddress zmissing 1 zvalueFrom ztape zwants zlabelFrom zlabelSize zlabelAddress zmade x1 x2 (x4 + 1)) else none)) else none))) else none))
def f_MD_oneLine (zat : Int32) (zend : Int32) (zline : Int32) (zlabels : Int32) (zaddress : Int32) (zmissing : Int32) (zvalueFrom : Int32) (ztape : Nat → Int32) (zwants : Nat → Int32) (zlabelFrom : Nat → Int32) (zlabelSize : Nat → Int32) (zlabelAddress : Nat → Int32) (zmade : Nat → Int32) (p1 : Int32) (p2 : Int32) : Option (Int32 × Int32 × Int32 × Int32 × Int32 × Int32 × Int32 × Int32 × Int32 × (Nat → Int32) × (Nat → Int32) × (Nat → Int32) × (Nat → Int32)) := b_MD_oneLine_13 65536 zat zend zline zlabels zaddress zmissing 1 zvalueFrom ztape zwants zlabelFrom zlabelSize zlabelAddress zmade p1 p2 zat
set_option maxHeartbeats 4000000 in
set_option maxRecDepth 100000 in
theorem kb_MD_oneLine_579 {p : Program} {l : Launch} {e : Env} {s : State} {m : MethodId} {below : List Frame} {meth : Method} {c : Code} {A : Nat → Prop} {E : jz_E} {n0 n_base n_bound n_depth n_disk n_halted n_isThere n_labelAddress n_labelFrom n_labelSize n_made n_memory n_mode n_output n_outs n_pc n_ranOut n_register n_size n_steps n_tape n_timer n_typed n_waits n_wants : Nat} {p1 : Int32} {p2 : Int32} {o_r : Int32} {o_zat : Int32} {o_zlabels : Int32} {o_zaddress : Int32} {o_zmissing : Int32} {o_zgood : Int32} {o_zvalue : Int32} {o_zvalueFrom : Int32} {o_zvalueSize : Int32} {o_zlabelFrom : Nat → Int32} {o_zlabelSize : Nat → Int32} {o_zlabelAddress : Nat → Int32} {o_zmade : Nat → Int32} (J : JC p s m ([.ref n0, .int p1, .int p2] : List Value).toArray meth c c_MD_oneLine 11 (some .int) y_MD_oneLine.cls) (hJ : jE E s) (hA : ∀ q : Nat, s.heap.size ≤ q → A q) (hZ : jz_ok E A s s.heap) : ∀ (ztaped : Int32) (zat : Int32) (zend : Int32) (zline : Int32) (zlabels : Int32) (zfault : Int32) (zfaultLine : Int32) (zisTold : Int32) (zaddress : Int32) (zmissing : Int32) (zgood : Int32) (zvalue : Int32) (zvalueFrom : Int32) (zvalueSize : Int32) (zme : Int32) (ztape : Nat → Int32) (zwants : Nat → Int32) (zlabelFrom : Nat → Int32) (zlabelSize : Nat → Int32) (zlabelAddress : Nat → Int32) (zmade : Nat → Int32) (x2 : Int32) (x7 : Int32) (x10 : Int32) (H : Heap) (locs : List Loc) (ls : Array Slot), b_MD_oneLine_579 zat zline zlabels zaddress zmissing zgood zvalue zvalueFrom zvalueSize ztape zlabelFrom zlabelSize zlabelAddress zmade x2 x7 x10 = some (o_r, o_zat, o_zlabels, o_zaddress, o_zmissing, o_zgood, o_zvalue, o_zvalueFrom, o_zvalueSize, o_zlabelFrom, o_zlabelSize, o_zlabelAddress, o_zmade) → va_P E.1 classes [(n0, .inr (6, [.ref n_tape, .int ztaped, .ref n_isThere, .ref n_size, .ref n_depth, .ref n_memory, .ref n_register, .ref n_mode, .ref n_pc, .ref n_base, .ref n_bound, .ref n_timer, .ref n_ranOut, .ref n_halted, .ref n_steps, .ref n_outs, .ref n_output, .ref n_waits, .ref n_typed, .ref n_disk, .ref n_wants, .int zat, .int zend, .int zline, .ref n_labelFrom, .ref n_labelSize, .ref n_labelAddress, .int zlabels, .int zfault, .int zfaultLine, .int zisTold, .int zaddress, .ref n_made, .int zmissing, .int zgood, .int zvalue, .int zvalueFrom, .int zvalueSize, .int zme])), (n_tape, .inl (E.2.1 2, 3000, .inl ztape)), (n_wants, .inl (E.2.1 0, 25, .inl zwants)), (n_labelFrom, .inl (E.2.1 0, 100, .inl zlabelFrom)), (n_labelSize, .inl (E.2.1 0, 100, .inl zlabelSize)), (n_labelAddress, .inl (E.2.1 0, 100, .inl zlabelAddress)), (n_made, .inl (E.2.1 0, 1024, .inl zmade))] H → va_D A [(n0, .inr (6, [.ref n_tape, .int ztaped, .ref n_isThere, .ref n_size, .ref n_depth, .ref n_memory, .ref n_register, .ref n_mode, .ref n_pc, .ref n_base, .ref n_bound, .ref n_timer, .ref n_ranOut, .ref n_halted, .ref n_steps, .ref n_outs, .ref n_output, .ref n_waits, .ref n_typed, .ref n_disk, .ref n_wants, .int zat, .int zend, .int zline, .ref n_labelFrom, .ref n_labelSize, .ref n_labelAddress, .int zlabels, .int zfault, .int zfaultLine, .int zisTold, .int zaddress, .ref n_made, .int zmissing, .int zgood, .int zvalue, .int zvalueFrom, .int zvalueSize, .int zme])), (n_tape, .inl (E.2.1 2, 3000, .inl ztape)), (n_wants, .inl (E.2.1 0, 25, .inl zwants)), (n_labelFrom, .inl (E.2.1 0, 100, .inl zlabelFrom)), (n_labelSize, .inl (E.2.1 0, 100, .inl zlabelSize)), (n_labelAddress, .inl (E.2.1 0, 100, .inl zlabelAddress)), (n_made, .inl (E.2.1 0, 1024, .inl zmade))] → va_S A s.heap H locs → lv_has ls 11 [(0, .ref n0), (2, .int x2), (7, .int x7), (10, .int x10)] → W p l e ({ frames := 3, cells := 0, slots := 0, locals := 64 }) s m ([.ref n0, .int p1, .int p2] : List Value).toArray below meth c H locs 0 0 (MQ below (va_Qi (fun (r' : Int32) (u : va_W) => r' = o_r ∧ u = [(n0, .inr (6, [.ref n_tape, .int ztaped, .ref n_isThere, .ref n_size, .ref n_depth, .ref n_memory, .ref n_register, .ref n_mode, .ref n_pc, .ref n_base, .ref n_bound, .ref n_timer, .ref n_ranOut, .ref n_halted, .ref n_steps, .ref n_outs, .ref n_output, .ref n_waits, .ref n_typed, .ref n_disk, .ref n_wants, .int o_zat, .int zend, .int zline, .ref n_labelFrom, .ref n_labelSize, .ref n_labelAddress, .int o_zlabels, .int zfault, .int zfaultLine, .int zisTold, .int o_zaddress, .ref n_made, .int o_zmissing, .int o_zgood, .int o_zvalue, .int o_zvalueFrom, .int o_zvalueSize, .int zme])), (n_tape, .inl (E.2.1 2, 3000, .inl ztape)), (n_wants, .inl (E.2.1 0, 25, .inl zwants)), (n_labelFrom, .inl (E.2.1 0, 100, .inl o_zlabelFrom)), (n_labelSize, .inl (E.2.1 0, 100, .inl o_zlabelSize)), (n_labelAddress, .inl (E.2.1 0, 100, .inl o_zlabelAddress)), (n_made, .inl (E.2.1 0, 1024, .inl o_zmade))]) (BW E A) A) ([.ref n0, .int p1, .int p2] : List Value).toArray s 0 0 A) (F0 m 579 ls []) := by
  intro ztaped zat zend zline zlabels zfault zfaultLine zisTold zaddress zmissing zgood zvalue zvalueFrom zvalueSize zme ztape zwants zlabelFrom zlabelSize zlabelAddress zmade x2 x7 x10 H locs ls h hP hD hS hl
  rw [b_MD_oneLine_579] at h
  refine lv_iload J.1 J.2.1 d_MD_oneLine_579 (lv_at hl 2 rfl) ?_
  refine lv_bipush (v := 25) J.1 J.2.1 d_MD_oneLine_581 (by decide) ?_
  refine lv_icmp_ne (tgt := 603) J.1 J.2.1 d_MD_oneLine_583 (by decide) (fun c_1 => ?_) (fun c_1 => ?_)
  · replace h := g_f c_1 h
    refine lv_aload_n J.1 J.2.1 d_MD_oneLine_603 rfl (lv_at hl 0 rfl) ?_
    refine lv_iload J.1 J.2.1 d_MD_oneLine_604 (lv_at hl 3 rfl) ?_
    refine jp J hJ hP hD hS 0 rfl rfl i_MD t_MD t_MD_ok n_MD 31 (by decide) gf_MD_214 rfl rfl rfl (Nat.le_of_ble_eq_true rfl) d_MD_oneLine_606 (WS' := [(n0, .inr (6, [.ref n_tape, .int ztaped, .ref n_isThere, .ref n_size, .ref n_depth, .ref n_memory, .ref n_register, .ref n_mode, .ref n_pc, .ref n_base, .ref n_bound, .ref n_timer, .ref n_ranOut, .ref n_halted, .ref n_steps, .ref n_outs, .ref n_output, .ref n_waits, .ref n_typed, .ref n_disk, .ref n_wants, .int zat, .int zend, .int zline, .ref n_labelFrom, .ref n_labelSize, .ref n_labelAddress, .int zlabels, .int zfault, .int zfaultLine, .int zisTold, .int x10, .ref n_made, .int zmissing, .int zgood, .int zvalue, .int zvalueFrom, .int zvalueSize, .int zme])), (n_tape, .inl (E.2.1 2, 3000, .inl ztape)), (n_wants, .inl (E.2.1 0, 25, .inl zwants)), (n_labelFrom, .inl (E.2.1 0, 100, .inl zlabelFrom)), (n_labelSize, .inl (E.2.1 0, 100, .inl zlabelSize)), (n_labelAddress, .inl (E.2.1 0, 100, .inl zlabelAddress)), (n_made, .inl (E.2.1 0, 1024, .inl zmade))]) rfl ?_
    clear hP hD hS
    intro H locs hP hD hS
    refine lv_iconst (v := 0) J.1 J.2.1 d_MD_oneLine_609 (by decide) ?_
    have h := Option.some.inj h
    have e_0 := (Prod.mk.inj h).1
    have h := (Prod.mk.inj h).2
    have e_1 := (Prod.mk.inj h).1
    have h := (Prod.mk.inj h).2
    have e_2 := (Prod.mk.inj h).1
    have h := (Prod.mk.inj h).2
    have e_3 := (Prod.mk.inj h).1
    have h := (Prod.mk.inj h).2
    have e_4 := (Prod.mk.inj h).1
    have h := (Prod.mk.inj h).2
    have e_5 := (Prod.mk.inj h).1
    have h := (Prod.mk.inj h).2
    have e_6 := (Prod.mk.inj h).1
    have h := (Prod.mk.inj h).2
    have e_7 := (Prod.mk.inj h).1
    have h := (Prod.mk.inj h).2
    have e_8 := (Prod.mk.inj h).1
    have h := (Prod.mk.inj h).2
    have e_9 := (Prod.mk.inj h).1
    have h := (Prod.mk.inj h).2
    have e_10 := (Prod.mk.inj h).1
    have h := (Prod.mk.inj h).2
    have e_11 := (Prod.mk.inj h).1
    have h := (Prod.mk.inj h).2
    rw [← e_0, ← e_1, ← e_2, ← e_3, ← e_4, ← e_5, ← e_6, ← e_7, ← e_8, ← e_9, ← e_10, ← e_11, ← h]
    exact jr_i J hS hP hD rfl d_MD_oneLine_610
  · replace h := g_t c_1 h
    refine lv_aload_n J.1 J.2.1 d_MD_oneLine_586 rfl (lv_at hl 0 rfl) ?_
    refine lv_iload_n J.1 J.2.1 d_MD_oneLine_587 rfl (lv_at hl 1 rfl) ?_
    refine lv_if_eq (tgt := 598) J.1 J.2.1 d_MD_oneLine_588 (by decide) (fun c_2 => ?_) (fun c_2 => ?_)
    · replace h := g_t c_2 h
      refine lv_iconst (v := 0) J.1 J.2.1 d_MD_oneLine_598 (by decide) ?_
      refine lv_iload_n J.1 J.2.1 d_MD_oneLine_599 rfl (lv_at hl 1 rfl) ?_
      replace h := g_bd h
      obtain ⟨⟨zaddress_3, zmade_3⟩, q_3, h⟩ := h
      try dsimp only at h
      have hq := ct_MD_put l E n0 n_base n_bound n_depth n_disk n_halted n_isThere n_labelAddress n_labelFrom n_labelSize n_made n_memory n_mode n_output n_outs n_pc n_ranOut n_register n_size n_steps n_tape n_timer n_typed n_waits n_wants H.size ztaped zat zend zline zlabels zfault zfaultLine zisTold zaddress zmissing zgood zvalue zvalueFrom zvalueSize zme zmade 0 x2 zaddress_3 zmade_3 q_3
      have hr := jrunV (p := p) (e := e) (below := below) (R := ({ frames := 3, cells := 0, slots := 0, locals := 64 })) (cells := 0) (slots := 0) (As := [.int 0, .int x2]) (rest := []) J hJ hA hZ hP hD hS hq [0, 6] rfl (by decide) gl_MD_229 gi_MD_put gsel_MD_put gini_MD gc_MD_put hd_MD_put ⟨rfl, rfl, Nat.le_of_ble_eq_true rfl, Nat.le_of_ble_eq_true rfl⟩ rfl rfl hl.1 rfl rfl (Nat.le_of_ble_eq_true rfl) d_MD_oneLine_600 ⟨Nat.zero_le _, Nat.zero_le _⟩
      clear hq
      refine jk_v hr hA hP hD hS [0, 6] [1, 2, 3, 4, 5] (WR := [(n_tape, .inl (E.2.1 2, 3000, .inl ztape)), (n_wants, .inl (E.2.1 0, 25, .inl zwants)), (n_labelFrom, .inl (E.2.1 0, 100, .inl zlabelFrom)), (n_labelSize, .inl (E.2.1 0, 100, .inl zlabelSize)), (n_labelAddress, .inl (E.2.1 0, 100, .inl zlabelAddress))]) rfl rfl (by decide) (by decide) [5, 0, 1, 2, 3, 4, 6] (WF := [(n0, .inr (6, [.ref n_tape, .int ztaped, .ref n_isThere, .ref n_size, .ref n_depth, .ref n_memory, .ref n_register, .ref n_mode, .ref n_pc, .ref n_base, .ref n_bound, .ref n_timer, .ref n_ranOut, .ref n_halted, .ref n_steps, .ref n_outs, .ref n_output, .ref n_waits, .ref n_typed, .ref n_disk, .ref n_wants, .int zat, .int zend, .int zline, .ref n_labelFrom, .ref n_labelSize, .ref n_labelAddress, .int zlabels, .int zfault, .int zfaultLine, .int zisTold, .int zaddress_3, .ref n_made, .int zmissing, .int zgood, .int zvalue, .int zvalueFrom, .int zvalueSize, .int zme])), (n_tape, .inl (E.2.1 2, 3000, .inl ztape)), (n_wants, .inl (E.2.1 0, 25, .inl zwants)), (n_labelFrom, .inl (E.2.1 0, 100, .inl zlabelFrom)), (n_labelSize, .inl (E.2.1 0, 100, .inl zlabelSize)), (n_labelAddress, .inl (E.2.1 0, 100, .inl zlabelAddress)), (n_made, .inl (E.2.1 0, 1024, .inl zmade_3))]) rfl (by decide) ?_
      clear hP hD hS
      intro H locs hP hD hS
      clear hr
      refine lv_aload_n J.1 J.2.1 d_MD_oneLine_603 rfl (lv_at hl 0 rfl) ?_
      refine lv_iload J.1 J.2.1 d_MD_oneLine_604 (lv_at hl 3 rfl) ?_
      refine jp J hJ hP hD hS 0 rfl rfl i_MD t_MD t_MD_ok n_MD 31 (by decide) gf_MD_214 rfl rfl rfl (Nat.le_of_ble_eq_true rfl) d_MD_oneLine_606 (WS' := [(n0, .inr (6, [.ref n_tape, .int ztaped, .ref n_isThere, .ref n_size, .ref n_depth, .ref n_memory, .ref n_register, .ref n_mode, .ref n_pc, .ref n_base, .ref n_bound, .ref n_timer, .ref n_ranOut, .ref n_halted, .ref n_steps, .ref n_outs, .ref n_output, .ref n_waits, .ref n_typed, .ref n_disk, .ref n_wants, .int zat, .int zend, .int zline, .ref n_labelFrom, .ref n_labelSize, .ref n_labelAddress, .int zlabels, .int zfault, .int zfaultLine, .int zisTold, .int x10, .ref n_made, .int zmissing, .int zgood, .int zvalue, .int zvalueFrom, .int zvalueSize, .int zme])), (n_tape, .inl (E.2.1 2, 3000, .inl ztape)), (n_wants, .inl (E.2.1 0, 25, .inl zwants)), (n_labelFrom, .inl (E.2.1 0, 100, .inl zlabelFrom)), (n_labelSize, .inl (E.2.1 0, 100, .inl zlabelSize)), (n_labelAddress, .inl (E.2.1 0, 100, .inl zlabelAddress)), (n_made, .inl (E.2.1 0, 1024, .inl zmade_3))]) rfl ?_
      clear hP hD hS
      intro H locs hP hD hS
      refine lv_iconst (v := 0) J.1 J.2.1 d_MD_oneLine_609 (by decide) ?_
      have h := Option.some.inj h
      have e_0 := (Prod.mk.inj h).1
      have h := (Prod.mk.inj h).2
      have e_1 := (Prod.mk.inj h).1
      have h := (Prod.mk.inj h).2
      have e_2 := (Prod.mk.inj h).1
      have h := (Prod.mk.inj h).2
      have e_3 := (Prod.mk.inj h).1
      have h := (Prod.mk.inj h).2
      have e_4 := (Prod.mk.inj h).1
      have h := (Prod.mk.inj h).2
      have e_5 := (Prod.mk.inj h).1
      have h := (Prod.mk.inj h).2
      have e_6 := (Prod.mk.inj h).1
      have h := (Prod.mk.inj h).2
      have e_7 := (Prod.mk.inj h).1
      have h := (Prod.mk.inj h).2
      have e_8 := (Prod.mk.inj h).1
      have h := (Prod.mk.inj h).2
      have e_9 := (Prod.mk.inj h).1
      have h := (Prod.mk.inj h).2
      have e_10 := (Prod.mk.inj h).1
      have h := (Prod.mk.inj h).2
      have e_11 := (Prod.mk.inj h).1
      have h := (Prod.mk.inj h).2
      rw [← e_0, ← e_1, ← e_2, ← e_3, ← e_4, ← e_5, ← e_6, ← e_7, ← e_8, ← e_9, ← e_10, ← e_11, ← h]
      exact jr_i J hS hP hD rfl d_MD_oneLine_610
    · replace h := g_f c_2 h
      refine lv_aload_n J.1 J.2.1 d_MD_oneLine_591 rfl (lv_at hl 0 rfl) ?_
      replace h := g_bd h
      obtain ⟨⟨r_4, zmissing_4⟩, q_4, h⟩ := h
      try dsimp only at h
      have hq := ct_MD_valued l E n0 n_base n_bound n_depth n_disk n_halted n_isThere n_labelAddress n_labelFrom n_labelSize n_made n_memory n_mode n_output n_outs n_pc n_ranOut n_register n_size n_steps n_tape n_timer n_typed n_waits n_wants H.size ztaped zat zend zline zlabels zfault zfaultLine zisTold zaddress zmissing zgood zvalue zvalueFrom zvalueSize zme ztape zlabelFrom zlabelSize zlabelAddress r_4 zmissing_4 q_4
      have hr := jrunV (p := p) (e := e) (below := below) (R := ({ frames := 3, cells := 0, slots := 0, locals := 64 })) (cells := 0) (slots := 0) (As := []) (rest := [.ref n0]) J hJ hA hZ hP hD hS hq [0, 1, 3, 4, 5] rfl (by decide) gl_MD_233 gi_MD_valued gsel_MD_valued gini_MD gc_MD_valued hd_MD_valued ⟨rfl, rfl, Nat.le_of_ble_eq_true rfl, Nat.le_of_ble_eq_true rfl⟩ rfl rfl hl.1 rfl rfl (Nat.le_of_ble_eq_true rfl) d_MD_oneLine_592 ⟨Nat.zero_le _, Nat.zero_le _⟩
      clear hq
      refine jk_i hr hA hP hD hS [0, 1, 3, 4, 5] [2, 6] (WR := [(n_wants, .inl (E.2.1 0, 25, .inl zwants)), (n_made, .inl (E.2.1 0, 1024, .inl zmade))]) rfl rfl (by decide) (by decide) [2, 3, 0, 4, 5, 6, 1] (WF := [(n0, .inr (6, [.ref n_tape, .int ztaped, .ref n_isThere, .ref n_size, .ref n_depth, .ref n_memory, .ref n_register, .ref n_mode, .ref n_pc, .ref n_base, .ref n_bound, .ref n_timer, .ref n_ranOut, .ref n_halted, .ref n_steps, .ref n_outs, .ref n_output, .ref n_waits, .ref n_typed, .ref n_disk, .ref n_wants, .int zat, .int zend, .int zline, .ref n_labelFrom, .ref n_labelSize, .ref n_labelAddress, .int zlabels, .int zfault, .int zfaultLine, .int zisTold, .int zaddress, .ref n_made, .int zmissing_4, .int zgood, .int zvalue, .int zvalueFrom, .int zvalueSize, .int zme])), (n_tape, .inl (E.2.1 2, 3000, .inl ztape)), (n_wants, .inl (E.2.1 0, 25, .inl zwants)), (n_labelFrom, .inl (E.2.1 0, 100, .inl zlabelFrom)), (n_labelSize, .inl (E.2.1 0, 100, .inl zlabelSize)), (n_labelAddress, .inl (E.2.1 0, 100, .inl zlabelAddress)), (n_made, .inl (E.2.1 0, 1024, .inl zmade))]) rfl (by decide) ?_
      clear hP hD hS
      intro H locs hP hD hS
      clear hr
      refine lv_goto (tgt := 599) J.1 J.2.1 d_MD_oneLine_595 (by decide) ?_
      refine lv_iload_n J.1 J.2.1 d_MD_oneLine_599 rfl (lv_at hl 1 rfl) ?_
      replace h := g_bd h
      obtain ⟨⟨zaddress_5, zmade_5⟩, q_5, h⟩ := h
      try dsimp only at h
      have hq := ct_MD_put l E n0 n_base n_bound n_depth n_disk n_halted n_isThere n_labelAddress n_labelFrom n_labelSize n_made n_memory n_mode n_output n_outs n_pc n_ranOut n_register n_size n_steps n_tape n_timer n_typed n_waits n_wants H.size ztaped zat zend zline zlabels zfault zfaultLine zisTold zaddress zmissing_4 zgood zvalue zvalueFrom zvalueSize zme zmade r_4 x2 zaddress_5 zmade_5 q_5
      have hr := jrunV (p := p) (e := e) (below := below) (R := ({ frames := 3, cells := 0, slots := 0, locals := 64 })) (cells := 0) (slots := 0) (As := [.int r_4, .int x2]) (rest := []) J hJ hA hZ hP hD hS hq [0, 6] rfl (by decide) gl_MD_229 gi_MD_put gsel_MD_put gini_MD gc_MD_put hd_MD_put ⟨rfl, rfl, Nat.le_of_ble_eq_true rfl, Nat.le_of_ble_eq_true rfl⟩ rfl rfl hl.1 rfl rfl (Nat.le_of_ble_eq_true rfl) d_MD_oneLine_600 ⟨Nat.zero_le _, Nat.zero_le _⟩
      clear hq
      refine jk_v hr hA hP hD hS [0, 6] [1, 2, 3, 4, 5] (WR := [(n_tape, .inl (E.2.1 2, 3000, .inl ztape)), (n_wants, .inl (E.2.1 0, 25, .inl zwants)), (n_labelFrom, .inl (E.2.1 0, 100, .inl zlabelFrom)), (n_labelSize, .inl (E.2.1 0, 100, .inl zlabelSize)), (n_labelAddress, .inl (E.2.1 0, 100, .inl zlabelAddress))]) rfl rfl (by decide) (by decide) [5, 0, 1, 2, 3, 4, 6] (WF := [(n0, .inr (6, [.ref n_tape, .int ztaped, .ref n_isThere, .ref n_size, .ref n_depth, .ref n_memory, .ref n_register, .ref n_mode, .ref n_pc, .ref n_base, .ref n_bound, .ref n_timer, .ref n_ranOut, .ref n_halted, .ref n_steps, .ref n_outs, .ref n_output, .ref n_waits, .ref n_typed, .ref n_disk, .ref n_wants, .int zat, .int zend, .int zline, .ref n_labelFrom, .ref n_labelSize, .ref n_labelAddress, .int zlabels, .int zfault, .int zfaultLine, .int zisTold, .int zaddress_5, .ref n_made, .int zmissing_4, .int zgood, .int zvalue, .int zvalueFrom, .int zvalueSize, .int zme])), (n_tape, .inl (E.2.1 2, 3000, .inl ztape)), (n_wants, .inl (E.2.1 0, 25, .inl zwants)), (n_labelFrom, .inl (E.2.1 0, 100, .inl zlabelFrom)), (n_labelSize, .inl (E.2.1 0, 100, .inl zlabelSize)), (n_labelAddress, .inl (E.2.1 0, 100, .inl zlabelAddress)), (n_made, .inl (E.2.1 0, 1024, .inl zmade_5))]) rfl (by decide) ?_
      clear hP hD hS
      intro H locs hP hD hS
      clear hr
      refine lv_aload_n J.1 J.2.1 d_MD_oneLine_603 rfl (lv_at hl 0 rfl) ?_
      refine lv_iload J.1 J.2.1 d_MD_oneLine_604 (lv_at hl 3 rfl) ?_
      refine jp J hJ hP hD hS 0 rfl rfl i_MD t_MD t_MD_ok n_MD 31 (by decide) gf_MD_214 rfl rfl rfl (Nat.le_of_ble_eq_true rfl) d_MD_oneLine_606 (WS' := [(n0, .inr (6, [.ref n_tape, .int ztaped, .ref n_isThere, .ref n_size, .ref n_depth, .ref n_memory, .ref n_register, .ref n_mode, .ref n_pc, .ref n_base, .ref n_bound, .ref n_timer, .ref n_ranOut, .ref n_halted, .ref n_steps, .ref n_outs, .ref n_output, .ref n_waits, .ref n_typed, .ref n_disk, .ref n_wants, .int zat, .int zend, .int zline, .ref n_labelFrom, .ref n_labelSize, .ref n_labelAddress, .int zlabels, .int zfault, .int zfaultLine, .int zisTold, .int x10, .ref n_made, .int zmissing_4, .int zgood, .int zvalue, .int zvalueFrom, .int zvalueSize, .int zme])), (n_tape, .inl (E.2.1 2, 3000, .inl ztape)), (n_wants, .inl (E.2.1 0, 25, .inl zwants)), (n_labelFrom, .inl (E.2.1 0, 100, .inl zlabelFrom)), (n_labelSize, .inl (E.2.1 0, 100, .inl zlabelSize)), (n_labelAddress, .inl (E.2.1 0, 100, .inl zlabelAddress)), (n_made, .inl (E.2.1 0, 1024, .inl zmade_5))]) rfl ?_
      clear hP hD hS
      intro H locs hP hD hS
      refine lv_iconst (v := 0) J.1 J.2.1 d_MD_oneLine_609 (by decide) ?_
      have h := Option.some.inj h
      have e_0 := (Prod.mk.inj h).1
      have h := (Prod.mk.inj h).2
      have e_1 := (Prod.mk.inj h).1
      have h := (Prod.mk.inj h).2
      have e_2 := (Prod.mk.inj h).1
      have h := (Prod.mk.inj h).2
      have e_3 := (Prod.mk.inj h).1
      have h := (Prod.mk.inj h).2
      have e_4 := (Prod.mk.inj h).1
      have h := (Prod.mk.inj h).2
      have e_5 := (Prod.mk.inj h).1
      have h := (Prod.mk.inj h).2
      have e_6 := (Prod.mk.inj h).1
      have h := (Prod.mk.inj h).2
      have e_7 := (Prod.mk.inj h).1
      have h := (Prod.mk.inj h).2
      have e_8 := (Prod.mk.inj h).1
      have h := (Prod.mk.inj h).2
      have e_9 := (Prod.mk.inj h).1
      have h := (Prod.mk.inj h).2
      have e_10 := (Prod.mk.inj h).1
      have h := (Prod.mk.inj h).2
      have e_11 := (Prod.mk.inj h).1
      have h := (Prod.mk.inj h).2
      rw [← e_0, ← e_1, ← e_2, ← e_3, ← e_4, ← e_5, ← e_6, ← e_7, ← e_8, ← e_9, ← e_10, ← e_11, ← h]
      exact jr_i J hS hP hD rfl d_MD_oneLine_610
set_option maxHeartbeats 4000000 in
set_option maxRecDepth 100000 in
theorem kb_MD_oneLine_520 {p : Program} {l : Launch} {e : Env} {s : State} {m : MethodId} {below : List Frame} {meth : Method} {c : Code} {A : Nat → Prop} {E : jz_E} {n0 n_base n_bound n_depth n_disk n_halted n_isThere n_labelAddress n_labelFrom n_labelSize n_made n_memory n_mode n_output n_outs n_pc n_ranOut n_register n_size n_steps n_tape n_timer n_typed n_waits n_wants : Nat} {p1 : Int32} {p2 : Int32} {o_r : Int32} {o_zat : Int32} {o_zlabels : Int32} {o_zaddress : Int32} {o_zmissing : Int32} {o_zgood : Int32} {o_zvalue : Int32} {o_zvalueFrom : Int32} {o_zvalueSize : Int32} {o_zlabelFrom : Nat → Int32} {o_zlabelSize : Nat → Int32} {o_zlabelAddress : Nat → Int32} {o_zmade : Nat → Int32} (J : JC p s m ([.ref n0, .int p1, .int p2] : List Value).toArray meth c c_MD_oneLine 11 (some .int) y_MD_oneLine.cls) (hJ : jE E s) (hA : ∀ q : Nat, s.heap.size ≤ q → A q) (hZ : jz_ok E A s s.heap) : ∀ (ztaped : Int32) (zat : Int32) (zend : Int32) (zline : Int32) (zlabels : Int32) (zfault : Int32) (zfaultLine : Int32) (zisTold : Int32) (zaddress : Int32) (zmissing : Int32) (zgood : Int32) (zvalue : Int32) (zvalueFrom : Int32) (zvalueSize : Int32) (zme : Int32) (ztape : Nat → Int32) (zwants : Nat → Int32) (zlabelFrom : Nat → Int32) (zlabelSize : Nat → Int32) (zlabelAddress : Nat → Int32) (zmade : Nat → Int32) (x1 : Int32) (x2 : Int32) (x7 : Int32) (x8 : Int32) (x9 : Int32) (x10 : Int32) (H : Heap) (locs : List Loc) (ls : Array Slot), b_MD_oneLine_520 zat zline zlabels zaddress zmissing zgood zvalue zvalueFrom zvalueSize ztape zlabelFrom zlabelSize zlabelAddress zmade x1 x2 x7 x8 x9 x10 = some (o_r, o_zat, o_zlabels, o_zaddress, o_zmissing, o_zgood, o_zvalue, o_zvalueFrom, o_zvalueSize, o_zlabelFrom, o_zlabelSize, o_zlabelAddress, o_zmade) → va_P E.1 classes [(n0, .inr (6, [.ref n_tape, .int ztaped, .ref n_isThere, .ref n_size, .ref n_depth, .ref n_memory, .ref n_register, .ref n_mode, .ref n_pc, .ref n_base, .ref n_bound, .ref n_timer, .ref n_ranOut, .ref n_halted, .ref n_steps, .ref n_outs, .ref n_output, .ref n_waits, .ref n_typed, .ref n_disk, .ref n_wants, .int zat, .int zend, .int zline, .ref n_labelFrom, .ref n_labelSize, .ref n_labelAddress, .int zlabels, .int zfault, .int zfaultLine, .int zisTold, .int zaddress, .ref n_made, .int zmissing, .int zgood, .int zvalue, .int zvalueFrom, .int zvalueSize, .int zme])), (n_tape, .inl (E.2.1 2, 3000, .inl ztape)), (n_wants, .inl (E.2.1 0, 25, .inl zwants)), (n_labelFrom, .inl (E.2.1 0, 100, .inl zlabelFrom)), (n_labelSize, .inl (E.2.1 0, 100, .inl zlabelSize)), (n_labelAddress, .inl (E.2.1 0, 100, .inl zlabelAddress)), (n_made, .inl (E.2.1 0, 1024, .inl zmade))] H → va_D A [(n0, .inr (6, [.ref n_tape, .int ztaped, .ref n_isThere, .ref n_size, .ref n_depth, .ref n_memory, .ref n_register, .ref n_mode, .ref n_pc, .ref n_base, .ref n_bound, .ref n_timer, .ref n_ranOut, .ref n_halted, .ref n_steps, .ref n_outs, .ref n_output, .ref n_waits, .ref n_typed, .ref n_disk, .ref n_wants, .int zat, .int zend, .int zline, .ref n_labelFrom, .ref n_labelSize, .ref n_labelAddress, .int zlabels, .int zfault, .int zfaultLine, .int zisTold, .int zaddress, .ref n_made, .int zmissing, .int zgood, .int zvalue, .int zvalueFrom, .int zvalueSize, .int zme])), (n_tape, .inl (E.2.1 2, 3000, .inl ztape)), (n_wants, .inl (E.2.1 0, 25, .inl zwants)), (n_labelFrom, .inl (E.2.1 0, 100, .inl zlabelFrom)), (n_labelSize, .inl (E.2.1 0, 100, .inl zlabelSize)), (n_labelAddress, .inl (E.2.1 0, 100, .inl zlabelAddress)), (n_made, .inl (E.2.1 0, 1024, .inl zmade))] → va_S A s.heap H locs → lv_has ls 11 [(0, .ref n0), (1, .int x1), (2, .int x2), (7, .int x7), (8, .int x8), (9, .int x9), (10, .int x10)] → W p l e ({ frames := 3, cells := 0, slots := 0, locals := 64 }) s m ([.ref n0, .int p1, .int p2] : List Value).toArray below meth c H locs 0 0 (MQ below (va_Qi (fun (r' : Int32) (u : va_W) => r' = o_r ∧ u = [(n0, .inr (6, [.ref n_tape, .int ztaped, .ref n_isThere, .ref n_size, .ref n_depth, .ref n_memory, .ref n_register, .ref n_mode, .ref n_pc, .ref n_base, .ref n_bound, .ref n_timer, .ref n_ranOut, .ref n_halted, .ref n_steps, .ref n_outs, .ref n_output, .ref n_waits, .ref n_typed, .ref n_disk, .ref n_wants, .int o_zat, .int zend, .int zline, .ref n_labelFrom, .ref n_labelSize, .ref n_labelAddress, .int o_zlabels, .int zfault, .int zfaultLine, .int zisTold, .int o_zaddress, .ref n_made, .int o_zmissing, .int o_zgood, .int o_zvalue, .int o_zvalueFrom, .int o_zvalueSize, .int zme])), (n_tape, .inl (E.2.1 2, 3000, .inl ztape)), (n_wants, .inl (E.2.1 0, 25, .inl zwants)), (n_labelFrom, .inl (E.2.1 0, 100, .inl o_zlabelFrom)), (n_labelSize, .inl (E.2.1 0, 100, .inl o_zlabelSize)), (n_labelAddress, .inl (E.2.1 0, 100, .inl o_zlabelAddress)), (n_made, .inl (E.2.1 0, 1024, .inl o_zmade))]) (BW E A) A) ([.ref n0, .int p1, .int p2] : List Value).toArray s 0 0 A) (F0 m 520 ls []) := by
  intro ztaped zat zend zline zlabels zfault zfaultLine zisTold zaddress zmissing zgood zvalue zvalueFrom zvalueSize zme ztape zwants zlabelFrom zlabelSize zlabelAddress zmade x1 x2 x7 x8 x9 x10 H locs ls h hP hD hS hl
  rw [b_MD_oneLine_520] at h
  refine lv_iload J.1 J.2.1 d_MD_oneLine_520 (lv_at hl 6 rfl) ?_
  refine lv_iload_n J.1 J.2.1 d_MD_oneLine_522 rfl (lv_at hl 1 rfl) ?_
  refine lv_icmp_le (tgt := 528) J.1 J.2.1 d_MD_oneLine_523 (by decide) (fun c_6 => ?_) (fun c_6 => ?_)
  · replace h := g_t c_6 h
    refine lv_iload J.1 J.2.1 d_MD_oneLine_528 (lv_at hl 3 rfl) ?_
    refine lv_if_lt (tgt := 579) J.1 J.2.1 d_MD_oneLine_530 (by decide) (fun c_7 => ?_) (fun c_7 => ?_)
    · replace h := g_t c_7 h
      exact kb_MD_oneLine_579 J hJ hA hZ _ _ _ _ _ _ _ _ _ _ _ _ _ _ _ _ _ _ _ _ _ _ _ _ _ _ _ h hP hD hS (lv_sub hl [0, 2, 3, 6] rfl)
    · replace h := g_f c_7 h
      refine lv_iload J.1 J.2.1 d_MD_oneLine_533 (lv_at hl 3 rfl) ?_
      refine lv_bipush (v := 25) J.1 J.2.1 d_MD_oneLine_535 (by decide) ?_
      refine lv_icmp_ge (tgt := 579) J.1 J.2.1 d_MD_oneLine_537 (by decide) (fun c_8 => ?_) (fun c_8 => ?_)
      · replace h := g_t c_8 h
        exact kb_MD_oneLine_579 J hJ hA hZ _ _ _ _ _ _ _ _ _ _ _ _ _ _ _ _ _ _ _ _ _ _ _ _ _ _ _ h hP hD hS (lv_sub hl [0, 2, 3, 6] rfl)
      · replace h := g_f c_8 h
        refine lv_aload_n J.1 J.2.1 d_MD_oneLine_540 rfl (lv_at hl 0 rfl) ?_
        refine lv_bipush (v := 64) J.1 J.2.1 d_MD_oneLine_541 (by decide) ?_
        refine lv_iload J.1 J.2.1 d_MD_oneLine_543 (lv_at hl 3 rfl) ?_
        refine lv_imul J.1 J.2.1 d_MD_oneLine_545 ?_
        refine lv_bipush (v := 8) J.1 J.2.1 d_MD_oneLine_546 (by decide) ?_
        refine lv_iload J.1 J.2.1 d_MD_oneLine_548 (lv_at hl 4 rfl) ?_
        refine lv_imul J.1 J.2.1 d_MD_oneLine_550 ?_
        refine lv_iadd J.1 J.2.1 d_MD_oneLine_551 ?_
        refine lv_iload J.1 J.2.1 d_MD_oneLine_552 (lv_at hl 5 rfl) ?_
        refine lv_iadd J.1 J.2.1 d_MD_oneLine_554 ?_
        refine lv_iload_n J.1 J.2.1 d_MD_oneLine_555 rfl (lv_at hl 2 rfl) ?_
        replace h := g_bd h
        obtain ⟨⟨zaddress_9, zmade_9⟩, q_9, h⟩ := h
        try dsimp only at h
        have hq := ct_MD_put l E n0 n_base n_bound n_depth n_disk n_halted n_isThere n_labelAddress n_labelFrom n_labelSize n_made n_memory n_mode n_output n_outs n_pc n_ranOut n_register n_size n_steps n_tape n_timer n_typed n_waits n_wants H.size ztaped zat zend zline zlabels zfault zfaultLine zisTold zaddress zmissing zgood zvalue zvalueFrom zvalueSize zme zmade (((64 * x7) + (8 * x8)) + x9) x2 zaddress_9 zmade_9 q_9
        have hr := jrunV (p := p) (e := e) (below := below) (R := ({ frames := 3, cells := 0, slots := 0, locals := 64 })) (cells := 0) (slots := 0) (As := [.int (((64 * x7) + (8 * x8)) + x9), .int x2]) (rest := []) J hJ hA hZ hP hD hS hq [0, 6] rfl (by decide) gl_MD_229 gi_MD_put gsel_MD_put gini_MD gc_MD_put hd_MD_put ⟨rfl, rfl, Nat.le_of_ble_eq_true rfl, Nat.le_of_ble_eq_true rfl⟩ rfl rfl hl.1 rfl rfl (Nat.le_of_ble_eq_true rfl) d_MD_oneLine_556 ⟨Nat.zero_le _, Nat.zero_le _⟩
        clear hq
        refine jk_v hr hA hP hD hS [0, 6] [1, 2, 3, 4, 5] (WR := [(n_tape, .inl (E.2.1 2, 3000, .inl ztape)), (n_wants, .inl (E.2.1 0, 25, .inl zwants)), (n_labelFrom, .inl (E.2.1 0, 100, .inl zlabelFrom)), (n_labelSize, .inl (E.2.1 0, 100, .inl zlabelSize)), (n_labelAddress, .inl (E.2.1 0, 100, .inl zlabelAddress))]) rfl rfl (by decide) (by decide) [5, 0, 1, 2, 3, 4, 6] (WF := [(n0, .inr (6, [.ref n_tape, .int ztaped, .ref n_isThere, .ref n_size, .ref n_depth, .ref n_memory, .ref n_register, .ref n_mode, .ref n_pc, .ref n_base, .ref n_bound, .ref n_timer, .ref n_ranOut, .ref n_halted, .ref n_steps, .ref n_outs, .ref n_output, .ref n_waits, .ref n_typed, .ref n_disk, .ref n_wants, .int zat, .int zend, .int zline, .ref n_labelFrom, .ref n_labelSize, .ref n_labelAddress, .int zlabels, .int zfault, .int zfaultLine, .int zisTold, .int zaddress_9, .ref n_made, .int zmissing, .int zgood, .int zvalue, .int zvalueFrom, .int zvalueSize, .int zme])), (n_tape, .inl (E.2.1 2, 3000, .inl ztape)), (n_wants, .inl (E.2.1 0, 25, .inl zwants)), (n_labelFrom, .inl (E.2.1 0, 100, .inl zlabelFrom)), (n_labelSize, .inl (E.2.1 0, 100, .inl zlabelSize)), (n_labelAddress, .inl (E.2.1 0, 100, .inl zlabelAddress)), (n_made, .inl (E.2.1 0, 1024, .inl zmade_9))]) rfl (by decide) ?_
        clear hP hD hS
        intro H locs hP hD hS
        clear hr
        refine lv_aload_n J.1 J.2.1 d_MD_oneLine_559 rfl (lv_at hl 0 rfl) ?_
        refine lv_iload_n J.1 J.2.1 d_MD_oneLine_560 rfl (lv_at hl 2 rfl) ?_
        refine lv_if_eq (tgt := 571) J.1 J.2.1 d_MD_oneLine_561 (by decide) (fun c_10 => ?_) (fun c_10 => ?_)
        · replace h := g_t c_10 h
          refine lv_iconst (v := 0) J.1 J.2.1 d_MD_oneLine_571 (by decide) ?_
          refine lv_iload_n J.1 J.2.1 d_MD_oneLine_572 rfl (lv_at hl 2 rfl) ?_
          replace h := g_bd h
          obtain ⟨⟨zaddress_11, zmade_11⟩, q_11, h⟩ := h
          try dsimp only at h
          have hq := ct_MD_put l E n0 n_base n_bound n_depth n_disk n_halted n_isThere n_labelAddress n_labelFrom n_labelSize n_made n_memory n_mode n_output n_outs n_pc n_ranOut n_register n_size n_steps n_tape n_timer n_typed n_waits n_wants H.size ztaped zat zend zline zlabels zfault zfaultLine zisTold zaddress_9 zmissing zgood zvalue zvalueFrom zvalueSize zme zmade_9 0 x2 zaddress_11 zmade_11 q_11
          have hr := jrunV (p := p) (e := e) (below := below) (R := ({ frames := 3, cells := 0, slots := 0, locals := 64 })) (cells := 0) (slots := 0) (As := [.int 0, .int x2]) (rest := []) J hJ hA hZ hP hD hS hq [0, 6] rfl (by decide) gl_MD_229 gi_MD_put gsel_MD_put gini_MD gc_MD_put hd_MD_put ⟨rfl, rfl, Nat.le_of_ble_eq_true rfl, Nat.le_of_ble_eq_true rfl⟩ rfl rfl hl.1 rfl rfl (Nat.le_of_ble_eq_true rfl) d_MD_oneLine_573 ⟨Nat.zero_le _, Nat.zero_le _⟩
          clear hq
          refine jk_v hr hA hP hD hS [0, 6] [1, 2, 3, 4, 5] (WR := [(n_tape, .inl (E.2.1 2, 3000, .inl ztape)), (n_wants, .inl (E.2.1 0, 25, .inl zwants)), (n_labelFrom, .inl (E.2.1 0, 100, .inl zlabelFrom)), (n_labelSize, .inl (E.2.1 0, 100, .inl zlabelSize)), (n_labelAddress, .inl (E.2.1 0, 100, .inl zlabelAddress))]) rfl rfl (by decide) (by decide) [5, 0, 1, 2, 3, 4, 6] (WF := [(n0, .inr (6, [.ref n_tape, .int ztaped, .ref n_isThere, .ref n_size, .ref n_depth, .ref n_memory, .ref n_register, .ref n_mode, .ref n_pc, .ref n_base, .ref n_bound, .ref n_timer, .ref n_ranOut, .ref n_halted, .ref n_steps, .ref n_outs, .ref n_output, .ref n_waits, .ref n_typed, .ref n_disk, .ref n_wants, .int zat, .int zend, .int zline, .ref n_labelFrom, .ref n_labelSize, .ref n_labelAddress, .int zlabels, .int zfault, .int zfaultLine, .int zisTold, .int zaddress_11, .ref n_made, .int zmissing, .int zgood, .int zvalue, .int zvalueFrom, .int zvalueSize, .int zme])), (n_tape, .inl (E.2.1 2, 3000, .inl ztape)), (n_wants, .inl (E.2.1 0, 25, .inl zwants)), (n_labelFrom, .inl (E.2.1 0, 100, .inl zlabelFrom)), (n_labelSize, .inl (E.2.1 0, 100, .inl zlabelSize)), (n_labelAddress, .inl (E.2.1 0, 100, .inl zlabelAddress)), (n_made, .inl (E.2.1 0, 1024, .inl zmade_11))]) rfl (by decide) ?_
          clear hP hD hS
          intro H locs hP hD hS
          clear hr
          refine lv_goto (tgt := 603) J.1 J.2.1 d_MD_oneLine_576 (by decide) ?_
          refine lv_aload_n J.1 J.2.1 d_MD_oneLine_603 rfl (lv_at hl 0 rfl) ?_
          refine lv_iload J.1 J.2.1 d_MD_oneLine_604 (lv_at hl 6 rfl) ?_
          refine jp J hJ hP hD hS 0 rfl rfl i_MD t_MD t_MD_ok n_MD 31 (by decide) gf_MD_214 rfl rfl rfl (Nat.le_of_ble_eq_true rfl) d_MD_oneLine_606 (WS' := [(n0, .inr (6, [.ref n_tape, .int ztaped, .ref n_isThere, .ref n_size, .ref n_depth, .ref n_memory, .ref n_register, .ref n_mode, .ref n_pc, .ref n_base, .ref n_bound, .ref n_timer, .ref n_ranOut, .ref n_halted, .ref n_steps, .ref n_outs, .ref n_output, .ref n_waits, .ref n_typed, .ref n_disk, .ref n_wants, .int zat, .int zend, .int zline, .ref n_labelFrom, .ref n_labelSize, .ref n_labelAddress, .int zlabels, .int zfault, .int zfaultLine, .int zisTold, .int x10, .ref n_made, .int zmissing, .int zgood, .int zvalue, .int zvalueFrom, .int zvalueSize, .int zme])), (n_tape, .inl (E.2.1 2, 3000, .inl ztape)), (n_wants, .inl (E.2.1 0, 25, .inl zwants)), (n_labelFrom, .inl (E.2.1 0, 100, .inl zlabelFrom)), (n_labelSize, .inl (E.2.1 0, 100, .inl zlabelSize)), (n_labelAddress, .inl (E.2.1 0, 100, .inl zlabelAddress)), (n_made, .inl (E.2.1 0, 1024, .inl zmade_11))]) rfl ?_
          clear hP hD hS
          intro H locs hP hD hS
          refine lv_iconst (v := 0) J.1 J.2.1 d_MD_oneLine_609 (by decide) ?_
          have h := Option.some.inj h
          have e_0 := (Prod.mk.inj h).1
          have h := (Prod.mk.inj h).2
          have e_1 := (Prod.mk.inj h).1
          have h := (Prod.mk.inj h).2
          have e_2 := (Prod.mk.inj h).1
          have h := (Prod.mk.inj h).2
          have e_3 := (Prod.mk.inj h).1
          have h := (Prod.mk.inj h).2
          have e_4 := (Prod.mk.inj h).1
          have h := (Prod.mk.inj h).2
          have e_5 := (Prod.mk.inj h).1
          have h := (Prod.mk.inj h).2
          have e_6 := (Prod.mk.inj h).1
          have h := (Prod.mk.inj h).2
          have e_7 := (Prod.mk.inj h).1
          have h := (Prod.mk.inj h).2
          have e_8 := (Prod.mk.inj h).1
          have h := (Prod.mk.inj h).2
          have e_9 := (Prod.mk.inj h).1
          have h := (Prod.mk.inj h).2
          have e_10 := (Prod.mk.inj h).1
          have h := (Prod.mk.inj h).2
          have e_11 := (Prod.mk.inj h).1
          have h := (Prod.mk.inj h).2
          rw [← e_0, ← e_1, ← e_2, ← e_3, ← e_4, ← e_5, ← e_6, ← e_7, ← e_8, ← e_9, ← e_10, ← e_11, ← h]
          exact jr_i J hS hP hD rfl d_MD_oneLine_610
        · replace h := g_f c_10 h
          refine lv_aload_n J.1 J.2.1 d_MD_oneLine_564 rfl (lv_at hl 0 rfl) ?_
          replace h := g_bd h
          obtain ⟨⟨r_12, zmissing_12⟩, q_12, h⟩ := h
          try dsimp only at h
          have hq := ct_MD_valued l E n0 n_base n_bound n_depth n_disk n_halted n_isThere n_labelAddress n_labelFrom n_labelSize n_made n_memory n_mode n_output n_outs n_pc n_ranOut n_register n_size n_steps n_tape n_timer n_typed n_waits n_wants H.size ztaped zat zend zline zlabels zfault zfaultLine zisTold zaddress_9 zmissing zgood zvalue zvalueFrom zvalueSize zme ztape zlabelFrom zlabelSize zlabelAddress r_12 zmissing_12 q_12
          have hr := jrunV (p := p) (e := e) (below := below) (R := ({ frames := 3, cells := 0, slots := 0, locals := 64 })) (cells := 0) (slots := 0) (As := []) (rest := [.ref n0]) J hJ hA hZ hP hD hS hq [0, 1, 3, 4, 5] rfl (by decide) gl_MD_233 gi_MD_valued gsel_MD_valued gini_MD gc_MD_valued hd_MD_valued ⟨rfl, rfl, Nat.le_of_ble_eq_true rfl, Nat.le_of_ble_eq_true rfl⟩ rfl rfl hl.1 rfl rfl (Nat.le_of_ble_eq_true rfl) d_MD_oneLine_565 ⟨Nat.zero_le _, Nat.zero_le _⟩
          clear hq
          refine jk_i hr hA hP hD hS [0, 1, 3, 4, 5] [2, 6] (WR := [(n_wants, .inl (E.2.1 0, 25, .inl zwants)), (n_made, .inl (E.2.1 0, 1024, .inl zmade_9))]) rfl rfl (by decide) (by decide) [2, 3, 0, 4, 5, 6, 1] (WF := [(n0, .inr (6, [.ref n_tape, .int ztaped, .ref n_isThere, .ref n_size, .ref n_depth, .ref n_memory, .ref n_register, .ref n_mode, .ref n_pc, .ref n_base, .ref n_bound, .ref n_timer, .ref n_ranOut, .ref n_halted, .ref n_steps, .ref n_outs, .ref n_output, .ref n_waits, .ref n_typed, .ref n_disk, .ref n_wants, .int zat, .int zend, .int zline, .ref n_labelFrom, .ref n_labelSize, .ref n_labelAddress, .int zlabels, .int zfault, .int zfaultLine, .int zisTold, .int zaddress_9, .ref n_made, .int zmissing_12, .int zgood, .int zvalue, .int zvalueFrom, .int zvalueSize, .int zme])), (n_tape, .inl (E.2.1 2, 3000, .inl ztape)), (n_wants, .inl (E.2.1 0, 25, .inl zwants)), (n_labelFrom, .inl (E.2.1 0, 100, .inl zlabelFrom)), (n_labelSize, .inl (E.2.1 0, 100, .inl zlabelSize)), (n_labelAddress, .inl (E.2.1 0, 100, .inl zlabelAddress)), (n_made, .inl (E.2.1 0, 1024, .inl zmade_9))]) rfl (by decide) ?_
          clear hP hD hS
          intro H locs hP hD hS
          clear hr
          refine lv_goto (tgt := 572) J.1 J.2.1 d_MD_oneLine_568 (by decide) ?_
          refine lv_iload_n J.1 J.2.1 d_MD_oneLine_572 rfl (lv_at hl 2 rfl) ?_
          replace h := g_bd h
          obtain ⟨⟨zaddress_13, zmade_13⟩, q_13, h⟩ := h
          try dsimp only at h
          have hq := ct_MD_put l E n0 n_base n_bound n_depth n_disk n_halted n_isThere n_labelAddress n_labelFrom n_labelSize n_made n_memory n_mode n_output n_outs n_pc n_ranOut n_register n_size n_steps n_tape n_timer n_typed n_waits n_wants H.size ztaped zat zend zline zlabels zfault zfaultLine zisTold zaddress_9 zmissing_12 zgood zvalue zvalueFrom zvalueSize zme zmade_9 r_12 x2 zaddress_13 zmade_13 q_13
          have hr := jrunV (p := p) (e := e) (below := below) (R := ({ frames := 3, cells := 0, slots := 0, locals := 64 })) (cells := 0) (slots := 0) (As := [.int r_12, .int x2]) (rest := []) J hJ hA hZ hP hD hS hq [0, 6] rfl (by decide) gl_MD_229 gi_MD_put gsel_MD_put gini_MD gc_MD_put hd_MD_put ⟨rfl, rfl, Nat.le_of_ble_eq_true rfl, Nat.le_of_ble_eq_true rfl⟩ rfl rfl hl.1 rfl rfl (Nat.le_of_ble_eq_true rfl) d_MD_oneLine_573 ⟨Nat.zero_le _, Nat.zero_le _⟩
          clear hq
          refine jk_v hr hA hP hD hS [0, 6] [1, 2, 3, 4, 5] (WR := [(n_tape, .inl (E.2.1 2, 3000, .inl ztape)), (n_wants, .inl (E.2.1 0, 25, .inl zwants)), (n_labelFrom, .inl (E.2.1 0, 100, .inl zlabelFrom)), (n_labelSize, .inl (E.2.1 0, 100, .inl zlabelSize)), (n_labelAddress, .inl (E.2.1 0, 100, .inl zlabelAddress))]) rfl rfl (by decide) (by decide) [5, 0, 1, 2, 3, 4, 6] (WF := [(n0, .inr (6, [.ref n_tape, .int ztaped, .ref n_isThere, .ref n_size, .ref n_depth, .ref n_memory, .ref n_register, .ref n_mode, .ref n_pc, .ref n_base, .ref n_bound, .ref n_timer, .ref n_ranOut, .ref n_halted, .ref n_steps, .ref n_outs, .ref n_output, .ref n_waits, .ref n_typed, .ref n_disk, .ref n_wants, .int zat, .int zend, .int zline, .ref n_labelFrom, .ref n_labelSize, .ref n_labelAddress, .int zlabels, .int zfault, .int zfaultLine, .int zisTold, .int zaddress_13, .ref n_made, .int zmissing_12, .int zgood, .int zvalue, .int zvalueFrom, .int zvalueSize, .int zme])), (n_tape, .inl (E.2.1 2, 3000, .inl ztape)), (n_wants, .inl (E.2.1 0, 25, .inl zwants)), (n_labelFrom, .inl (E.2.1 0, 100, .inl zlabelFrom)), (n_labelSize, .inl (E.2.1 0, 100, .inl zlabelSize)), (n_labelAddress, .inl (E.2.1 0, 100, .inl zlabelAddress)), (n_made, .inl (E.2.1 0, 1024, .inl zmade_13))]) rfl (by decide) ?_
          clear hP hD hS
          intro H locs hP hD hS
          clear hr
          refine lv_goto (tgt := 603) J.1 J.2.1 d_MD_oneLine_576 (by decide) ?_
          refine lv_aload_n J.1 J.2.1 d_MD_oneLine_603 rfl (lv_at hl 0 rfl) ?_
          refine lv_iload J.1 J.2.1 d_MD_oneLine_604 (lv_at hl 6 rfl) ?_
          refine jp J hJ hP hD hS 0 rfl rfl i_MD t_MD t_MD_ok n_MD 31 (by decide) gf_MD_214 rfl rfl rfl (Nat.le_of_ble_eq_true rfl) d_MD_oneLine_606 (WS' := [(n0, .inr (6, [.ref n_tape, .int ztaped, .ref n_isThere, .ref n_size, .ref n_depth, .ref n_memory, .ref n_register, .ref n_mode, .ref n_pc, .ref n_base, .ref n_bound, .ref n_timer, .ref n_ranOut, .ref n_halted, .ref n_steps, .ref n_outs, .ref n_output, .ref n_waits, .ref n_typed, .ref n_disk, .ref n_wants, .int zat, .int zend, .int zline, .ref n_labelFrom, .ref n_labelSize, .ref n_labelAddress, .int zlabels, .int zfault, .int zfaultLine, .int zisTold, .int x10, .ref n_made, .int zmissing_12, .int zgood, .int zvalue, .int zvalueFrom, .int zvalueSize, .int zme])), (n_tape, .inl (E.2.1 2, 3000, .inl ztape)), (n_wants, .inl (E.2.1 0, 25, .inl zwants)), (n_labelFrom, .inl (E.2.1 0, 100, .inl zlabelFrom)), (n_labelSize, .inl (E.2.1 0, 100, .inl zlabelSize)), (n_labelAddress, .inl (E.2.1 0, 100, .inl zlabelAddress)), (n_made, .inl (E.2.1 0, 1024, .inl zmade_13))]) rfl ?_
          clear hP hD hS
          intro H locs hP hD hS
          refine lv_iconst (v := 0) J.1 J.2.1 d_MD_oneLine_609 (by decide) ?_
          have h := Option.some.inj h
          have e_0 := (Prod.mk.inj h).1
          have h := (Prod.mk.inj h).2
          have e_1 := (Prod.mk.inj h).1
          have h := (Prod.mk.inj h).2
          have e_2 := (Prod.mk.inj h).1
          have h := (Prod.mk.inj h).2
          have e_3 := (Prod.mk.inj h).1
          have h := (Prod.mk.inj h).2
          have e_4 := (Prod.mk.inj h).1
          have h := (Prod.mk.inj h).2
          have e_5 := (Prod.mk.inj h).1
          have h := (Prod.mk.inj h).2
          have e_6 := (Prod.mk.inj h).1
          have h := (Prod.mk.inj h).2
          have e_7 := (Prod.mk.inj h).1
          have h := (Prod.mk.inj h).2
          have e_8 := (Prod.mk.inj h).1
          have h := (Prod.mk.inj h).2
          have e_9 := (Prod.mk.inj h).1
          have h := (Prod.mk.inj h).2
          have e_10 := (Prod.mk.inj h).1
          have h := (Prod.mk.inj h).2
          have e_11 := (Prod.mk.inj h).1
          have h := (Prod.mk.inj h).2
          rw [← e_0, ← e_1, ← e_2, ← e_3, ← e_4, ← e_5, ← e_6, ← e_7, ← e_8, ← e_9, ← e_10, ← e_11, ← h]
          exact jr_i J hS hP hD rfl d_MD_oneLine_610
  · replace h := g_f c_6 h
    refine lv_iconst (v := 4) J.1 J.2.1 d_MD_oneLine_526 (by decide) ?_
    have h := Option.some.inj h
    have e_0 := (Prod.mk.inj h).1
    have h := (Prod.mk.inj h).2
    have e_1 := (Prod.mk.inj h).1
    have h := (Prod.mk.inj h).2
    have e_2 := (Prod.mk.inj h).1
    have h := (Prod.mk.inj h).2
    have e_3 := (Prod.mk.inj h).1
    have h := (Prod.mk.inj h).2
    have e_4 := (Prod.mk.inj h).1
    have h := (Prod.mk.inj h).2
    have e_5 := (Prod.mk.inj h).1
    have h := (Prod.mk.inj h).2
    have e_6 := (Prod.mk.inj h).1
    have h := (Prod.mk.inj h).2
    have e_7 := (Prod.mk.inj h).1
    have h := (Prod.mk.inj h).2
    have e_8 := (Prod.mk.inj h).1
    have h := (Prod.mk.inj h).2
    have e_9 := (Prod.mk.inj h).1
    have h := (Prod.mk.inj h).2
    have e_10 := (Prod.mk.inj h).1
    have h := (Prod.mk.inj h).2
    have e_11 := (Prod.mk.inj h).1
    have h := (Prod.mk.inj h).2
    rw [← e_0, ← e_1, ← e_2, ← e_3, ← e_4, ← e_5, ← e_6, ← e_7, ← e_8, ← e_9, ← e_10, ← e_11, ← h]
    exact jr_i J hS hP hD rfl d_MD_oneLine_527
set_option maxHeartbeats 4000000 in
set_option maxRecDepth 100000 in
theorem kb_MD_oneLine_451 {p : Program} {l : Launch} {e : Env} {s : State} {m : MethodId} {below : List Frame} {meth : Method} {c : Code} {A : Nat → Prop} {E : jz_E} {n0 n_base n_bound n_depth n_disk n_halted n_isThere n_labelAddress n_labelFrom n_labelSize n_made n_memory n_mode n_output n_outs n_pc n_ranOut n_register n_size n_steps n_tape n_timer n_typed n_waits n_wants : Nat} {p1 : Int32} {p2 : Int32} {o_r : Int32} {o_zat : Int32} {o_zlabels : Int32} {o_zaddress : Int32} {o_zmissing : Int32} {o_zgood : Int32} {o_zvalue : Int32} {o_zvalueFrom : Int32} {o_zvalueSize : Int32} {o_zlabelFrom : Nat → Int32} {o_zlabelSize : Nat → Int32} {o_zlabelAddress : Nat → Int32} {o_zmade : Nat → Int32} (J : JC p s m ([.ref n0, .int p1, .int p2] : List Value).toArray meth c c_MD_oneLine 11 (some .int) y_MD_oneLine.cls) (hJ : jE E s) (hA : ∀ q : Nat, s.heap.size ≤ q → A q) (hZ : jz_ok E A s s.heap) : ∀ (ztaped : Int32) (zat : Int32) (zend : Int32) (zline : Int32) (zlabels : Int32) (zfault : Int32) (zfaultLine : Int32) (zisTold : Int32) (zaddress : Int32) (zmissing : Int32) (zgood : Int32) (zvalue : Int32) (zvalueFrom : Int32) (zvalueSize : Int32) (zme : Int32) (ztape : Nat → Int32) (zwants : Nat → Int32) (zlabelFrom : Nat → Int32) (zlabelSize : Nat → Int32) (zlabelAddress : Nat → Int32) (zmade : Nat → Int32) (x1 : Int32) (x2 : Int32) (x7 : Int32) (x8 : Int32) (x9 : Int32) (H : Heap) (locs : List Loc) (ls : Array Slot), b_MD_oneLine_451 zat zline zlabels zaddress zmissing zgood zvalue zvalueFrom zvalueSize ztape zlabelFrom zlabelSize zlabelAddress zmade x1 x2 x7 x8 x9 = some (o_r, o_zat, o_zlabels, o_zaddress, o_zmissing, o_zgood, o_zvalue, o_zvalueFrom, o_zvalueSize, o_zlabelFrom, o_zlabelSize, o_zlabelAddress, o_zmade) → va_P E.1 classes [(n0, .inr (6, [.ref n_tape, .int ztaped, .ref n_isThere, .ref n_size, .ref n_depth, .ref n_memory, .ref n_register, .ref n_mode, .ref n_pc, .ref n_base, .ref n_bound, .ref n_timer, .ref n_ranOut, .ref n_halted, .ref n_steps, .ref n_outs, .ref n_output, .ref n_waits, .ref n_typed, .ref n_disk, .ref n_wants, .int zat, .int zend, .int zline, .ref n_labelFrom, .ref n_labelSize, .ref n_labelAddress, .int zlabels, .int zfault, .int zfaultLine, .int zisTold, .int zaddress, .ref n_made, .int zmissing, .int zgood, .int zvalue, .int zvalueFrom, .int zvalueSize, .int zme])), (n_tape, .inl (E.2.1 2, 3000, .inl ztape)), (n_wants, .inl (E.2.1 0, 25, .inl zwants)), (n_labelFrom, .inl (E.2.1 0, 100, .inl zlabelFrom)), (n_labelSize, .inl (E.2.1 0, 100, .inl zlabelSize)), (n_labelAddress, .inl (E.2.1 0, 100, .inl zlabelAddress)), (n_made, .inl (E.2.1 0, 1024, .inl zmade))] H → va_D A [(n0, .inr (6, [.ref n_tape, .int ztaped, .ref n_isThere, .ref n_size, .ref n_depth, .ref n_memory, .ref n_register, .ref n_mode, .ref n_pc, .ref n_base, .ref n_bound, .ref n_timer, .ref n_ranOut, .ref n_halted, .ref n_steps, .ref n_outs, .ref n_output, .ref n_waits, .ref n_typed, .ref n_disk, .ref n_wants, .int zat, .int zend, .int zline, .ref n_labelFrom, .ref n_labelSize, .ref n_labelAddress, .int zlabels, .int zfault, .int zfaultLine, .int zisTold, .int zaddress, .ref n_made, .int zmissing, .int zgood, .int zvalue, .int zvalueFrom, .int zvalueSize, .int zme])), (n_tape, .inl (E.2.1 2, 3000, .inl ztape)), (n_wants, .inl (E.2.1 0, 25, .inl zwants)), (n_labelFrom, .inl (E.2.1 0, 100, .inl zlabelFrom)), (n_labelSize, .inl (E.2.1 0, 100, .inl zlabelSize)), (n_labelAddress, .inl (E.2.1 0, 100, .inl zlabelAddress)), (n_made, .inl (E.2.1 0, 1024, .inl zmade))] → va_S A s.heap H locs → lv_has ls 11 [(0, .ref n0), (1, .int x1), (2, .int x2), (7, .int x7), (8, .int x8), (9, .int x9)] → W p l e ({ frames := 3, cells := 0, slots := 0, locals := 64 }) s m ([.ref n0, .int p1, .int p2] : List Value).toArray below meth c H locs 0 0 (MQ below (va_Qi (fun (r' : Int32) (u : va_W) => r' = o_r ∧ u = [(n0, .inr (6, [.ref n_tape, .int ztaped, .ref n_isThere, .ref n_size, .ref n_depth, .ref n_memory, .ref n_register, .ref n_mode, .ref n_pc, .ref n_base, .ref n_bound, .ref n_timer, .ref n_ranOut, .ref n_halted, .ref n_steps, .ref n_outs, .ref n_output, .ref n_waits, .ref n_typed, .ref n_disk, .ref n_wants, .int o_zat, .int zend, .int zline, .ref n_labelFrom, .ref n_labelSize, .ref n_labelAddress, .int o_zlabels, .int zfault, .int zfaultLine, .int zisTold, .int o_zaddress, .ref n_made, .int o_zmissing, .int o_zgood, .int o_zvalue, .int o_zvalueFrom, .int o_zvalueSize, .int zme])), (n_tape, .inl (E.2.1 2, 3000, .inl ztape)), (n_wants, .inl (E.2.1 0, 25, .inl zwants)), (n_labelFrom, .inl (E.2.1 0, 100, .inl o_zlabelFrom)), (n_labelSize, .inl (E.2.1 0, 100, .inl o_zlabelSize)), (n_labelAddress, .inl (E.2.1 0, 100, .inl o_zlabelAddress)), (n_made, .inl (E.2.1 0, 1024, .inl o_zmade))]) (BW E A) A) ([.ref n0, .int p1, .int p2] : List Value).toArray s 0 0 A) (F0 m 451 ls []) := by
  intro ztaped zat zend zline zlabels zfault zfaultLine zisTold zaddress zmissing zgood zvalue zvalueFrom zvalueSize zme ztape zwants zlabelFrom zlabelSize zlabelAddress zmade x1 x2 x7 x8 x9 H locs ls h hP hD hS hl
  rw [b_MD_oneLine_451] at h
  refine lv_iload J.1 J.2.1 d_MD_oneLine_451 (lv_at hl 3 rfl) ?_
  refine lv_if_ge (tgt := 463) J.1 J.2.1 d_MD_oneLine_453 (by decide) (fun c_14 => ?_) (fun c_14 => ?_)
  · replace h := g_t c_14 h
    refine lv_iload J.1 J.2.1 d_MD_oneLine_463 (lv_at hl 3 rfl) ?_
    refine lv_bipush (v := 25) J.1 J.2.1 d_MD_oneLine_465 (by decide) ?_
    refine lv_icmp_ge (tgt := 479) J.1 J.2.1 d_MD_oneLine_467 (by decide) (fun c_15 => ?_) (fun c_15 => ?_)
    · replace h := g_t c_15 h
      refine lv_iload J.1 J.2.1 d_MD_oneLine_479 (lv_at hl 3 rfl) ?_
      refine lv_bipush (v := 25) J.1 J.2.1 d_MD_oneLine_481 (by decide) ?_
      refine lv_icmp_ne (tgt := 495) J.1 J.2.1 d_MD_oneLine_483 (by decide) (fun c_16 => ?_) (fun c_16 => ?_)
      · replace h := g_f c_16 h
        refine lv_iload J.1 J.2.1 d_MD_oneLine_495 (lv_at hl 3 rfl) ?_
        refine lv_bipush (v := 26) J.1 J.2.1 d_MD_oneLine_497 (by decide) ?_
        refine lv_icmp_ne (tgt := 514) J.1 J.2.1 d_MD_oneLine_499 (by decide) (fun c_17 => ?_) (fun c_17 => ?_)
        · replace h := g_f c_17 h
          refine lv_aload_n J.1 J.2.1 d_MD_oneLine_514 rfl (lv_at hl 0 rfl) ?_
          refine jg J hJ hP 0 rfl rfl i_MD 35 (by decide) gf_MD_191 rfl d_MD_oneLine_515 ?_
          refine lv_istore (lv' := [(10, .int zvalue), (0, .ref n0), (1, .int x1), (2, .int x2), (7, .int x7), (8, .int x8), (9, .int x9)]) J.1 J.2.1 d_MD_oneLine_518 hl (by decide) rfl ?_
          clear hl
          intro ls hl
          exact kb_MD_oneLine_520 J hJ hA hZ _ _ _ _ _ _ _ _ _ _ _ _ _ _ _ _ _ _ _ _ _ _ _ _ _ _ _ _ _ _ h hP hD hS (lv_sub hl [1, 2, 3, 4, 5, 6, 0] rfl)
        · replace h := g_t c_17 h
          refine lv_aload_n J.1 J.2.1 d_MD_oneLine_502 rfl (lv_at hl 0 rfl) ?_
          refine jg J hJ hP 0 rfl rfl i_MD 31 (by decide) gf_MD_214 rfl d_MD_oneLine_503 ?_
          refine lv_aload_n J.1 J.2.1 d_MD_oneLine_506 rfl (lv_at hl 0 rfl) ?_
          refine jg J hJ hP 0 rfl rfl i_MD 35 (by decide) gf_MD_191 rfl d_MD_oneLine_507 ?_
          refine lv_iadd J.1 J.2.1 d_MD_oneLine_510 ?_
          refine lv_goto (tgt := 518) J.1 J.2.1 d_MD_oneLine_511 (by decide) ?_
          refine lv_istore (lv' := [(10, .int (zaddress + zvalue)), (0, .ref n0), (1, .int x1), (2, .int x2), (7, .int x7), (8, .int x8), (9, .int x9)]) J.1 J.2.1 d_MD_oneLine_518 hl (by decide) rfl ?_
          clear hl
          intro ls hl
          exact kb_MD_oneLine_520 J hJ hA hZ _ _ _ _ _ _ _ _ _ _ _ _ _ _ _ _ _ _ _ _ _ _ _ _ _ _ _ _ _ _ h hP hD hS (lv_sub hl [1, 2, 3, 4, 5, 6, 0] rfl)
      · replace h := g_t c_16 h
        refine lv_aload_n J.1 J.2.1 d_MD_oneLine_486 rfl (lv_at hl 0 rfl) ?_
        refine jg J hJ hP 0 rfl rfl i_MD 31 (by decide) gf_MD_214 rfl d_MD_oneLine_487 ?_
        refine lv_iconst (v := 1) J.1 J.2.1 d_MD_oneLine_490 (by decide) ?_
        refine lv_iadd J.1 J.2.1 d_MD_oneLine_491 ?_
        refine lv_goto (tgt := 518) J.1 J.2.1 d_MD_oneLine_492 (by decide) ?_
        refine lv_istore (lv' := [(10, .int (zaddress + 1)), (0, .ref n0), (1, .int x1), (2, .int x2), (7, .int x7), (8, .int x8), (9, .int x9)]) J.1 J.2.1 d_MD_oneLine_518 hl (by decide) rfl ?_
        clear hl
        intro ls hl
        exact kb_MD_oneLine_520 J hJ hA hZ _ _ _ _ _ _ _ _ _ _ _ _ _ _ _ _ _ _ _ _ _ _ _ _ _ _ _ _ _ _ h hP hD hS (lv_sub hl [1, 2, 3, 4, 5, 6, 0] rfl)
    · replace h := g_f c_15 h
      refine lv_aload_n J.1 J.2.1 d_MD_oneLine_470 rfl (lv_at hl 0 rfl) ?_
      refine jg J hJ hP 0 rfl rfl i_MD 31 (by decide) gf_MD_214 rfl d_MD_oneLine_471 ?_
      refine lv_iconst (v := 2) J.1 J.2.1 d_MD_oneLine_474 (by decide) ?_
      refine lv_iadd J.1 J.2.1 d_MD_oneLine_475 ?_
      refine lv_goto (tgt := 518) J.1 J.2.1 d_MD_oneLine_476 (by decide) ?_
      refine lv_istore (lv' := [(10, .int (zaddress + 2)), (0, .ref n0), (1, .int x1), (2, .int x2), (7, .int x7), (8, .int x8), (9, .int x9)]) J.1 J.2.1 d_MD_oneLine_518 hl (by decide) rfl ?_
      clear hl
      intro ls hl
      exact kb_MD_oneLine_520 J hJ hA hZ _ _ _ _ _ _ _ _ _ _ _ _ _ _ _ _ _ _ _ _ _ _ _ _ _ _ _ _ _ _ h hP hD hS (lv_sub hl [1, 2, 3, 4, 5, 6, 0] rfl)
  · replace h := g_f c_14 h
    refine lv_aload_n J.1 J.2.1 d_MD_oneLine_456 rfl (lv_at hl 0 rfl) ?_
    refine jg J hJ hP 0 rfl rfl i_MD 31 (by decide) gf_MD_214 rfl d_MD_oneLine_457 ?_
    refine lv_goto (tgt := 518) J.1 J.2.1 d_MD_oneLine_460 (by decide) ?_
    refine lv_istore (lv' := [(10, .int zaddress), (0, .ref n0), (1, .int x1), (2, .int x2), (7, .int x7), (8, .int x8), (9, .int x9)]) J.1 J.2.1 d_MD_oneLine_518 hl (by decide) rfl ?_
    clear hl
    intro ls hl
    exact kb_MD_oneLine_520 J hJ hA hZ _ _ _ _ _ _ _ _ _ _ _ _ _ _ _ _ _ _ _ _ _ _ _ _ _ _ _ _ _ _ h hP hD hS (lv_sub hl [1, 2, 3, 4, 5, 6, 0] rfl)
set_option maxHeartbeats 4000000 in
set_option maxRecDepth 100000 in
theorem kb_MD_oneLine_364 {p : Program} {l : Launch} {e : Env} {s : State} {m : MethodId} {below : List Frame} {meth : Method} {c : Code} {A : Nat → Prop} {E : jz_E} {n0 n_base n_bound n_depth n_disk n_halted n_isThere n_labelAddress n_labelFrom n_labelSize n_made n_memory n_mode n_output n_outs n_pc n_ranOut n_register n_size n_steps n_tape n_timer n_typed n_waits n_wants : Nat} {p1 : Int32} {p2 : Int32} {o_r : Int32} {o_zat : Int32} {o_zlabels : Int32} {o_zaddress : Int32} {o_zmissing : Int32} {o_zgood : Int32} {o_zvalue : Int32} {o_zvalueFrom : Int32} {o_zvalueSize : Int32} {o_zlabelFrom : Nat → Int32} {o_zlabelSize : Nat → Int32} {o_zlabelAddress : Nat → Int32} {o_zmade : Nat → Int32} (J : JC p s m ([.ref n0, .int p1, .int p2] : List Value).toArray meth c c_MD_oneLine 11 (some .int) y_MD_oneLine.cls) (hJ : jE E s) (hA : ∀ q : Nat, s.heap.size ≤ q → A q) (hZ : jz_ok E A s s.heap) : ∀ (ztaped : Int32) (zat : Int32) (zend : Int32) (zline : Int32) (zlabels : Int32) (zfault : Int32) (zfaultLine : Int32) (zisTold : Int32) (zaddress : Int32) (zmissing : Int32) (zgood : Int32) (zvalue : Int32) (zvalueFrom : Int32) (zvalueSize : Int32) (zme : Int32) (ztape : Nat → Int32) (zwants : Nat → Int32) (zlabelFrom : Nat → Int32) (zlabelSize : Nat → Int32) (zlabelAddress : Nat → Int32) (zmade : Nat → Int32) (x1 : Int32) (x2 : Int32) (x4 : Int32) (x5 : Int32) (x6 : Int32) (x7 : Int32) (x8 : Int32) (x9 : Int32) (H : Heap) (locs : List Loc) (ls : Array Slot), b_MD_oneLine_364 zat zline zlabels zaddress zmissing zgood zvalue zvalueFrom zvalueSize ztape zlabelFrom zlabelSize zlabelAddress zmade x1 x2 x4 x5 x6 x7 x8 x9 = some (o_r, o_zat, o_zlabels, o_zaddress, o_zmissing, o_zgood, o_zvalue, o_zvalueFrom, o_zvalueSize, o_zlabelFrom, o_zlabelSize, o_zlabelAddress, o_zmade) → va_P E.1 classes [(n0, .inr (6, [.ref n_tape, .int ztaped, .ref n_isThere, .ref n_size, .ref n_depth, .ref n_memory, .ref n_register, .ref n_mode, .ref n_pc, .ref n_base, .ref n_bound, .ref n_timer, .ref n_ranOut, .ref n_halted, .ref n_steps, .ref n_outs, .ref n_output, .ref n_waits, .ref n_typed, .ref n_disk, .ref n_wants, .int zat, .int zend, .int zline, .ref n_labelFrom, .ref n_labelSize, .ref n_labelAddress, .int zlabels, .int zfault, .int zfaultLine, .int zisTold, .int zaddress, .ref n_made, .int zmissing, .int zgood, .int zvalue, .int zvalueFrom, .int zvalueSize, .int zme])), (n_tape, .inl (E.2.1 2, 3000, .inl ztape)), (n_wants, .inl (E.2.1 0, 25, .inl zwants)), (n_labelFrom, .inl (E.2.1 0, 100, .inl zlabelFrom)), (n_labelSize, .inl (E.2.1 0, 100, .inl zlabelSize)), (n_labelAddress, .inl (E.2.1 0, 100, .inl zlabelAddress)), (n_made, .inl (E.2.1 0, 1024, .inl zmade))] H → va_D A [(n0, .inr (6, [.ref n_tape, .int ztaped, .ref n_isThere, .ref n_size, .ref n_depth, .ref n_memory, .ref n_register, .ref n_mode, .ref n_pc, .ref n_base, .ref n_bound, .ref n_timer, .ref n_ranOut, .ref n_halted, .ref n_steps, .ref n_outs, .ref n_output, .ref n_waits, .ref n_typed, .ref n_disk, .ref n_wants, .int zat, .int zend, .int zline, .ref n_labelFrom, .ref n_labelSize, .ref n_labelAddress, .int zlabels, .int zfault, .int zfaultLine, .int zisTold, .int zaddress, .ref n_made, .int zmissing, .int zgood, .int zvalue, .int zvalueFrom, .int zvalueSize, .int zme])), (n_tape, .inl (E.2.1 2, 3000, .inl ztape)), (n_wants, .inl (E.2.1 0, 25, .inl zwants)), (n_labelFrom, .inl (E.2.1 0, 100, .inl zlabelFrom)), (n_labelSize, .inl (E.2.1 0, 100, .inl zlabelSize)), (n_labelAddress, .inl (E.2.1 0, 100, .inl zlabelAddress)), (n_made, .inl (E.2.1 0, 1024, .inl zmade))] → va_S A s.heap H locs → lv_has ls 11 [(0, .ref n0), (1, .int x1), (2, .int x2), (4, .int x4), (5, .int x5), (6, .int x6), (7, .int x7), (8, .int x8), (9, .int x9)] → W p l e ({ frames := 3, cells := 0, slots := 0, locals := 64 }) s m ([.ref n0, .int p1, .int p2] : List Value).toArray below meth c H locs 0 0 (MQ below (va_Qi (fun (r' : Int32) (u : va_W) => r' = o_r ∧ u = [(n0, .inr (6, [.ref n_tape, .int ztaped, .ref n_isThere, .ref n_size, .ref n_depth, .ref n_memory, .ref n_register, .ref n_mode, .ref n_pc, .ref n_base, .ref n_bound, .ref n_timer, .ref n_ranOut, .ref n_halted, .ref n_steps, .ref n_outs, .ref n_output, .ref n_waits, .ref n_typed, .ref n_disk, .ref n_wants, .int o_zat, .int zend, .int zline, .ref n_labelFrom, .ref n_labelSize, .ref n_labelAddress, .int o_zlabels, .int zfault, .int zfaultLine, .int zisTold, .int o_zaddress, .ref n_made, .int o_zmissing, .int o_zgood, .int o_zvalue, .int o_zvalueFrom, .int o_zvalueSize, .int zme])), (n_tape, .inl (E.2.1 2, 3000, .inl ztape)), (n_wants, .inl (E.2.1 0, 25, .inl zwants)), (n_labelFrom, .inl (E.2.1 0, 100, .inl o_zlabelFrom)), (n_labelSize, .inl (E.2.1 0, 100, .inl o_zlabelSize)), (n_labelAddress, .inl (E.2.1 0, 100, .inl o_zlabelAddress)), (n_made, .inl (E.2.1 0, 1024, .inl o_zmade))]) (BW E A) A) ([.ref n0, .int p1, .int p2] : List Value).toArray s 0 0 A) (F0 m 364 ls []) := by
  intro ztaped zat zend zline zlabels zfault zfaultLine zisTold zaddress zmissing zgood zvalue zvalueFrom zvalueSize zme ztape zwants zlabelFrom zlabelSize zlabelAddress zmade x1 x2 x4 x5 x6 x7 x8 x9 H locs ls h hP hD hS hl
  rw [b_MD_oneLine_364] at h
  refine lv_aload_n J.1 J.2.1 d_MD_oneLine_364 rfl (lv_at hl 0 rfl) ?_
  refine jg J hJ hP 0 rfl rfl i_MD 34 (by decide) gf_MD_177 rfl d_MD_oneLine_365 ?_
  refine lv_if_ne (tgt := 373) J.1 J.2.1 d_MD_oneLine_368 (by decide) (fun c_18 => ?_) (fun c_18 => ?_)
  · replace h := g_f c_18 h
    refine lv_iload J.1 J.2.1 d_MD_oneLine_373 (lv_at hl 5 rfl) ?_
    refine lv_if_eq (tgt := 451) J.1 J.2.1 d_MD_oneLine_375 (by decide) (fun c_19 => ?_) (fun c_19 => ?_)
    · replace h := g_t c_19 h
      exact kb_MD_oneLine_451 J hJ hA hZ _ _ _ _ _ _ _ _ _ _ _ _ _ _ _ _ _ _ _ _ _ _ _ _ _ _ _ _ _ h hP hD hS (lv_sub hl [0, 1, 2, 6, 7, 8] rfl)
    · replace h := g_f c_19 h
      refine lv_iload_n J.1 J.2.1 d_MD_oneLine_378 rfl (lv_at hl 2 rfl) ?_
      refine lv_if_ne (tgt := 451) J.1 J.2.1 d_MD_oneLine_379 (by decide) (fun c_20 => ?_) (fun c_20 => ?_)
      · replace h := g_f c_20 h
        exact kb_MD_oneLine_451 J hJ hA hZ _ _ _ _ _ _ _ _ _ _ _ _ _ _ _ _ _ _ _ _ _ _ _ _ _ _ _ _ _ h hP hD hS (lv_sub hl [0, 1, 2, 6, 7, 8] rfl)
      · replace h := g_t c_20 h
        refine lv_aload_n J.1 J.2.1 d_MD_oneLine_382 rfl (lv_at hl 0 rfl) ?_
        refine lv_iload J.1 J.2.1 d_MD_oneLine_383 (lv_at hl 4 rfl) ?_
        refine lv_iload J.1 J.2.1 d_MD_oneLine_385 (lv_at hl 3 rfl) ?_
        replace h := g_bd h
        obtain ⟨r_21, q_21, h⟩ := h
        have hq := ct_MD_find l E n0 n_base n_bound n_depth n_disk n_halted n_isThere n_labelAddress n_labelFrom n_labelSize n_made n_memory n_mode n_output n_outs n_pc n_ranOut n_register n_size n_steps n_tape n_timer n_typed n_waits n_wants H.size ztaped zat zend zline zlabels zfault zfaultLine zisTold zaddress zmissing zgood zvalue zvalueFrom zvalueSize zme ztape zlabelFrom zlabelSize x5 x4 r_21 q_21
        have hr := jrunV (p := p) (e := e) (below := below) (R := ({ frames := 3, cells := 0, slots := 0, locals := 64 })) (cells := 0) (slots := 0) (As := [.int x5, .int x4]) (rest := []) J hJ hA hZ hP hD hS hq [0, 1, 3, 4] rfl (by decide) gl_MD_204 gi_MD_find gsel_MD_find gini_MD gc_MD_find hd_MD_find ⟨rfl, rfl, Nat.le_of_ble_eq_true rfl, Nat.le_of_ble_eq_true rfl⟩ rfl rfl hl.1 rfl rfl (Nat.le_of_ble_eq_true rfl) d_MD_oneLine_387 ⟨Nat.zero_le _, Nat.zero_le _⟩
        clear hq
        refine jk_i hr hA hP hD hS [0, 1, 3, 4] [2, 5, 6] (WR := [(n_wants, .inl (E.2.1 0, 25, .inl zwants)), (n_labelAddress, .inl (E.2.1 0, 100, .inl zlabelAddress)), (n_made, .inl (E.2.1 0, 1024, .inl zmade))]) rfl rfl (by decide) (by decide) [3, 4, 0, 5, 6, 1, 2] (WF := [(n0, .inr (6, [.ref n_tape, .int ztaped, .ref n_isThere, .ref n_size, .ref n_depth, .ref n_memory, .ref n_register, .ref n_mode, .ref n_pc, .ref n_base, .ref n_bound, .ref n_timer, .ref n_ranOut, .ref n_halted, .ref n_steps, .ref n_outs, .ref n_output, .ref n_waits, .ref n_typed, .ref n_disk, .ref n_wants, .int zat, .int zend, .int zline, .ref n_labelFrom, .ref n_labelSize, .ref n_labelAddress, .int zlabels, .int zfault, .int zfaultLine, .int zisTold, .int zaddress, .ref n_made, .int zmissing, .int zgood, .int zvalue, .int zvalueFrom, .int zvalueSize, .int zme])), (n_tape, .inl (E.2.1 2, 3000, .inl ztape)), (n_wants, .inl (E.2.1 0, 25, .inl zwants)), (n_labelFrom, .inl (E.2.1 0, 100, .inl zlabelFrom)), (n_labelSize, .inl (E.2.1 0, 100, .inl zlabelSize)), (n_labelAddress, .inl (E.2.1 0, 100, .inl zlabelAddress)), (n_made, .inl (E.2.1 0, 1024, .inl zmade))]) rfl (by decide) ?_
        clear hP hD hS
        intro H locs hP hD hS
        clear hr
        refine lv_if_lt (tgt := 395) J.1 J.2.1 d_MD_oneLine_390 (by decide) (fun c_22 => ?_) (fun c_22 => ?_)
        · replace h := g_t c_22 h
          refine lv_aload_n J.1 J.2.1 d_MD_oneLine_395 rfl (lv_at hl 0 rfl) ?_
          refine jg J hJ hP 0 rfl rfl i_MD 27 (by decide) gf_MD_109 rfl d_MD_oneLine_396 ?_
          refine lv_bipush (v := 100) J.1 J.2.1 d_MD_oneLine_399 (by decide) ?_
          refine lv_icmp_ne (tgt := 406) J.1 J.2.1 d_MD_oneLine_401 (by decide) (fun c_23 => ?_) (fun c_23 => ?_)
          · replace h := g_f c_23 h
            refine lv_aload_n J.1 J.2.1 d_MD_oneLine_406 rfl (lv_at hl 0 rfl) ?_
            refine jg J hJ hP 0 rfl rfl i_MD 24 (by decide) gf_MD_80 rfl d_MD_oneLine_407 ?_
            refine lv_aload_n J.1 J.2.1 d_MD_oneLine_410 rfl (lv_at hl 0 rfl) ?_
            refine jg J hJ hP 0 rfl rfl i_MD 27 (by decide) gf_MD_109 rfl d_MD_oneLine_411 ?_
            refine lv_iload J.1 J.2.1 d_MD_oneLine_414 (lv_at hl 4 rfl) ?_
            replace h := g_ck h
            obtain ⟨k_24, h⟩ := h
            refine jsi J hJ hP hD hS 3 rfl k_24 d_MD_oneLine_416 (WS' := [(n0, .inr (6, [.ref n_tape, .int ztaped, .ref n_isThere, .ref n_size, .ref n_depth, .ref n_memory, .ref n_register, .ref n_mode, .ref n_pc, .ref n_base, .ref n_bound, .ref n_timer, .ref n_ranOut, .ref n_halted, .ref n_steps, .ref n_outs, .ref n_output, .ref n_waits, .ref n_typed, .ref n_disk, .ref n_wants, .int zat, .int zend, .int zline, .ref n_labelFrom, .ref n_labelSize, .ref n_labelAddress, .int zlabels, .int zfault, .int zfaultLine, .int zisTold, .int zaddress, .ref n_made, .int zmissing, .int zgood, .int zvalue, .int zvalueFrom, .int zvalueSize, .int zme])), (n_tape, .inl (E.2.1 2, 3000, .inl ztape)), (n_wants, .inl (E.2.1 0, 25, .inl zwants)), (n_labelFrom, .inl (E.2.1 0, 100, .inl (upd zlabelFrom zlabels.toNatClampNeg x5))), (n_labelSize, .inl (E.2.1 0, 100, .inl zlabelSize)), (n_labelAddress, .inl (E.2.1 0, 100, .inl zlabelAddress)), (n_made, .inl (E.2.1 0, 1024, .inl zmade))]) rfl ?_
            clear hP hD hS
            intro H locs hP hD hS
            refine lv_aload_n J.1 J.2.1 d_MD_oneLine_417 rfl (lv_at hl 0 rfl) ?_
            refine jg J hJ hP 0 rfl rfl i_MD 25 (by decide) gf_MD_83 rfl d_MD_oneLine_418 ?_
            refine lv_aload_n J.1 J.2.1 d_MD_oneLine_421 rfl (lv_at hl 0 rfl) ?_
            refine jg J hJ hP 0 rfl rfl i_MD 27 (by decide) gf_MD_109 rfl d_MD_oneLine_422 ?_
            refine lv_iload J.1 J.2.1 d_MD_oneLine_425 (lv_at hl 3 rfl) ?_
            replace h := g_ck h
            obtain ⟨k_25, h⟩ := h
            refine jsi J hJ hP hD hS 4 rfl k_25 d_MD_oneLine_427 (WS' := [(n0, .inr (6, [.ref n_tape, .int ztaped, .ref n_isThere, .ref n_size, .ref n_depth, .ref n_memory, .ref n_register, .ref n_mode, .ref n_pc, .ref n_base, .ref n_bound, .ref n_timer, .ref n_ranOut, .ref n_halted, .ref n_steps, .ref n_outs, .ref n_output, .ref n_waits, .ref n_typed, .ref n_disk, .ref n_wants, .int zat, .int zend, .int zline, .ref n_labelFrom, .ref n_labelSize, .ref n_labelAddress, .int zlabels, .int zfault, .int zfaultLine, .int zisTold, .int zaddress, .ref n_made, .int zmissing, .int zgood, .int zvalue, .int zvalueFrom, .int zvalueSize, .int zme])), (n_tape, .inl (E.2.1 2, 3000, .inl ztape)), (n_wants, .inl (E.2.1 0, 25, .inl zwants)), (n_labelFrom, .inl (E.2.1 0, 100, .inl (upd zlabelFrom zlabels.toNatClampNeg x5))), (n_labelSize, .inl (E.2.1 0, 100, .inl (upd zlabelSize zlabels.toNatClampNeg x4))), (n_labelAddress, .inl (E.2.1 0, 100, .inl zlabelAddress)), (n_made, .inl (E.2.1 0, 1024, .inl zmade))]) rfl ?_
            clear hP hD hS
            intro H locs hP hD hS
            refine lv_aload_n J.1 J.2.1 d_MD_oneLine_428 rfl (lv_at hl 0 rfl) ?_
            refine jg J hJ hP 0 rfl rfl i_MD 26 (by decide) gf_MD_86 rfl d_MD_oneLine_429 ?_
            refine lv_aload_n J.1 J.2.1 d_MD_oneLine_432 rfl (lv_at hl 0 rfl) ?_
            refine jg J hJ hP 0 rfl rfl i_MD 27 (by decide) gf_MD_109 rfl d_MD_oneLine_433 ?_
            refine lv_aload_n J.1 J.2.1 d_MD_oneLine_436 rfl (lv_at hl 0 rfl) ?_
            refine jg J hJ hP 0 rfl rfl i_MD 31 (by decide) gf_MD_214 rfl d_MD_oneLine_437 ?_
            replace h := g_ck h
            obtain ⟨k_26, h⟩ := h
            refine jsi J hJ hP hD hS 5 rfl k_26 d_MD_oneLine_440 (WS' := [(n0, .inr (6, [.ref n_tape, .int ztaped, .ref n_isThere, .ref n_size, .ref n_depth, .ref n_memory, .ref n_register, .ref n_mode, .ref n_pc, .ref n_base, .ref n_bound, .ref n_timer, .ref n_ranOut, .ref n_halted, .ref n_steps, .ref n_outs, .ref n_output, .ref n_waits, .ref n_typed, .ref n_disk, .ref n_wants, .int zat, .int zend, .int zline, .ref n_labelFrom, .ref n_labelSize, .ref n_labelAddress, .int zlabels, .int zfault, .int zfaultLine, .int zisTold, .int zaddress, .ref n_made, .int zmissing, .int zgood, .int zvalue, .int zvalueFrom, .int zvalueSize, .int zme])), (n_tape, .inl (E.2.1 2, 3000, .inl ztape)), (n_wants, .inl (E.2.1 0, 25, .inl zwants)), (n_labelFrom, .inl (E.2.1 0, 100, .inl (upd zlabelFrom zlabels.toNatClampNeg x5))), (n_labelSize, .inl (E.2.1 0, 100, .inl (upd zlabelSize zlabels.toNatClampNeg x4))), (n_labelAddress, .inl (E.2.1 0, 100, .inl (upd zlabelAddress zlabels.toNatClampNeg zaddress))), (n_made, .inl (E.2.1 0, 1024, .inl zmade))]) rfl ?_
            clear hP hD hS
            intro H locs hP hD hS
            refine lv_aload_n J.1 J.2.1 d_MD_oneLine_441 rfl (lv_at hl 0 rfl) ?_
            refine lv_dup J.1 J.2.1 d_MD_oneLine_442 rfl ?_
            refine jg J hJ hP 0 rfl rfl i_MD 27 (by decide) gf_MD_109 rfl d_MD_oneLine_443 ?_
            refine lv_iconst (v := 1) J.1 J.2.1 d_MD_oneLine_446 (by decide) ?_
            refine lv_iadd J.1 J.2.1 d_MD_oneLine_447 ?_
            refine jp J hJ hP hD hS 0 rfl rfl i_MD t_MD t_MD_ok n_MD 27 (by decide) gf_MD_109 rfl rfl rfl (Nat.le_of_ble_eq_true rfl) d_MD_oneLine_448 (WS' := [(n0, .inr (6, [.ref n_tape, .int ztaped, .ref n_isThere, .ref n_size, .ref n_depth, .ref n_memory, .ref n_register, .ref n_mode, .ref n_pc, .ref n_base, .ref n_bound, .ref n_timer, .ref n_ranOut, .ref n_halted, .ref n_steps, .ref n_outs, .ref n_output, .ref n_waits, .ref n_typed, .ref n_disk, .ref n_wants, .int zat, .int zend, .int zline, .ref n_labelFrom, .ref n_labelSize, .ref n_labelAddress, .int (zlabels + 1), .int zfault, .int zfaultLine, .int zisTold, .int zaddress, .ref n_made, .int zmissing, .int zgood, .int zvalue, .int zvalueFrom, .int zvalueSize, .int zme])), (n_tape, .inl (E.2.1 2, 3000, .inl ztape)), (n_wants, .inl (E.2.1 0, 25, .inl zwants)), (n_labelFrom, .inl (E.2.1 0, 100, .inl (upd zlabelFrom zlabels.toNatClampNeg x5))), (n_labelSize, .inl (E.2.1 0, 100, .inl (upd zlabelSize zlabels.toNatClampNeg x4))), (n_labelAddress, .inl (E.2.1 0, 100, .inl (upd zlabelAddress zlabels.toNatClampNeg zaddress))), (n_made, .inl (E.2.1 0, 1024, .inl zmade))]) rfl ?_
            clear hP hD hS
            intro H locs hP hD hS
            exact kb_MD_oneLine_451 J hJ hA hZ _ _ _ _ _ _ _ _ _ _ _ _ _ _ _ _ _ _ _ _ _ _ _ _ _ _ _ _ _ h hP hD hS (lv_sub hl [0, 1, 2, 6, 7, 8] rfl)
          · replace h := g_t c_23 h
            refine lv_iconst (v := 3) J.1 J.2.1 d_MD_oneLine_404 (by decide) ?_
            have h := Option.some.inj h
            have e_0 := (Prod.mk.inj h).1
            have h := (Prod.mk.inj h).2
            have e_1 := (Prod.mk.inj h).1
            have h := (Prod.mk.inj h).2
            have e_2 := (Prod.mk.inj h).1
            have h := (Prod.mk.inj h).2
            have e_3 := (Prod.mk.inj h).1
            have h := (Prod.mk.inj h).2
            have e_4 := (Prod.mk.inj h).1
            have h := (Prod.mk.inj h).2
            have e_5 := (Prod.mk.inj h).1
            have h := (Prod.mk.inj h).2
            have e_6 := (Prod.mk.inj h).1
            have h := (Prod.mk.inj h).2
            have e_7 := (Prod.mk.inj h).1
            have h := (Prod.mk.inj h).2
            have e_8 := (Prod.mk.inj h).1
            have h := (Prod.mk.inj h).2
            have e_9 := (Prod.mk.inj h).1
            have h := (Prod.mk.inj h).2
            have e_10 := (Prod.mk.inj h).1
            have h := (Prod.mk.inj h).2
            have e_11 := (Prod.mk.inj h).1
            have h := (Prod.mk.inj h).2
            rw [← e_0, ← e_1, ← e_2, ← e_3, ← e_4, ← e_5, ← e_6, ← e_7, ← e_8, ← e_9, ← e_10, ← e_11, ← h]
            exact jr_i J hS hP hD rfl d_MD_oneLine_405
        · replace h := g_f c_22 h
          refine lv_iconst (v := 2) J.1 J.2.1 d_MD_oneLine_393 (by decide) ?_
          have h := Option.some.inj h
          have e_0 := (Prod.mk.inj h).1
          have h := (Prod.mk.inj h).2
          have e_1 := (Prod.mk.inj h).1
          have h := (Prod.mk.inj h).2
          have e_2 := (Prod.mk.inj h).1
          have h := (Prod.mk.inj h).2
          have e_3 := (Prod.mk.inj h).1
          have h := (Prod.mk.inj h).2
          have e_4 := (Prod.mk.inj h).1
          have h := (Prod.mk.inj h).2
          have e_5 := (Prod.mk.inj h).1
          have h := (Prod.mk.inj h).2
          have e_6 := (Prod.mk.inj h).1
          have h := (Prod.mk.inj h).2
          have e_7 := (Prod.mk.inj h).1
          have h := (Prod.mk.inj h).2
          have e_8 := (Prod.mk.inj h).1
          have h := (Prod.mk.inj h).2
          have e_9 := (Prod.mk.inj h).1
          have h := (Prod.mk.inj h).2
          have e_10 := (Prod.mk.inj h).1
          have h := (Prod.mk.inj h).2
          have e_11 := (Prod.mk.inj h).1
          have h := (Prod.mk.inj h).2
          rw [← e_0, ← e_1, ← e_2, ← e_3, ← e_4, ← e_5, ← e_6, ← e_7, ← e_8, ← e_9, ← e_10, ← e_11, ← h]
          exact jr_i J hS hP hD rfl d_MD_oneLine_394
  · replace h := g_t c_18 h
    refine lv_iconst (v := 1) J.1 J.2.1 d_MD_oneLine_371 (by decide) ?_
    have h := Option.some.inj h
    have e_0 := (Prod.mk.inj h).1
    have h := (Prod.mk.inj h).2
    have e_1 := (Prod.mk.inj h).1
    have h := (Prod.mk.inj h).2
    have e_2 := (Prod.mk.inj h).1
    have h := (Prod.mk.inj h).2
    have e_3 := (Prod.mk.inj h).1
    have h := (Prod.mk.inj h).2
    have e_4 := (Prod.mk.inj h).1
    have h := (Prod.mk.inj h).2
    have e_5 := (Prod.mk.inj h).1
    have h := (Prod.mk.inj h).2
    have e_6 := (Prod.mk.inj h).1
    have h := (Prod.mk.inj h).2
    have e_7 := (Prod.mk.inj h).1
    have h := (Prod.mk.inj h).2
    have e_8 := (Prod.mk.inj h).1
    have h := (Prod.mk.inj h).2
    have e_9 := (Prod.mk.inj h).1
    have h := (Prod.mk.inj h).2
    have e_10 := (Prod.mk.inj h).1
    have h := (Prod.mk.inj h).2
    have e_11 := (Prod.mk.inj h).1
    have h := (Prod.mk.inj h).2
    rw [← e_0, ← e_1, ← e_2, ← e_3, ← e_4, ← e_5, ← e_6, ← e_7, ← e_8, ← e_9, ← e_10, ← e_11, ← h]
    exact jr_i J hS hP hD rfl d_MD_oneLine_372
set_option maxHeartbeats 4000000 in
set_option maxRecDepth 100000 in
theorem kb_MD_oneLine_334 {p : Program} {l : Launch} {e : Env} {s : State} {m : MethodId} {below : List Frame} {meth : Method} {c : Code} {A : Nat → Prop} {E : jz_E} {n0 n_base n_bound n_depth n_disk n_halted n_isThere n_labelAddress n_labelFrom n_labelSize n_made n_memory n_mode n_output n_outs n_pc n_ranOut n_register n_size n_steps n_tape n_timer n_typed n_waits n_wants : Nat} {p1 : Int32} {p2 : Int32} {o_r : Int32} {o_zat : Int32} {o_zlabels : Int32} {o_zaddress : Int32} {o_zmissing : Int32} {o_zgood : Int32} {o_zvalue : Int32} {o_zvalueFrom : Int32} {o_zvalueSize : Int32} {o_zlabelFrom : Nat → Int32} {o_zlabelSize : Nat → Int32} {o_zlabelAddress : Nat → Int32} {o_zmade : Nat → Int32} (J : JC p s m ([.ref n0, .int p1, .int p2] : List Value).toArray meth c c_MD_oneLine 11 (some .int) y_MD_oneLine.cls) (hJ : jE E s) (hA : ∀ q : Nat, s.heap.size ≤ q → A q) (hZ : jz_ok E A s s.heap) : ∀ (ztaped : Int32) (zat : Int32) (zend : Int32) (zline : Int32) (zlabels : Int32) (zfault : Int32) (zfaultLine : Int32) (zisTold : Int32) (zaddress : Int32) (zmissing : Int32) (zgood : Int32) (zvalue : Int32) (zvalueFrom : Int32) (zvalueSize : Int32) (zme : Int32) (ztape : Nat → Int32) (zwants : Nat → Int32) (zlabelFrom : Nat → Int32) (zlabelSize : Nat → Int32) (zlabelAddress : Nat → Int32) (zmade : Nat → Int32) (x1 : Int32) (x2 : Int32) (x4 : Int32) (x5 : Int32) (x6 : Int32) (x7 : Int32) (x8 : Int32) (x9 : Int32) (H : Heap) (locs : List Loc) (ls : Array Slot), b_MD_oneLine_334 zat zline zlabels zaddress zmissing zgood zvalue zvalueFrom zvalueSize ztape zlabelFrom zlabelSize zlabelAddress zmade x1 x2 x4 x5 x6 x7 x8 x9 = some (o_r, o_zat, o_zlabels, o_zaddress, o_zmissing, o_zgood, o_zvalue, o_zvalueFrom, o_zvalueSize, o_zlabelFrom, o_zlabelSize, o_zlabelAddress, o_zmade) → va_P E.1 classes [(n0, .inr (6, [.ref n_tape, .int ztaped, .ref n_isThere, .ref n_size, .ref n_depth, .ref n_memory, .ref n_register, .ref n_mode, .ref n_pc, .ref n_base, .ref n_bound, .ref n_timer, .ref n_ranOut, .ref n_halted, .ref n_steps, .ref n_outs, .ref n_output, .ref n_waits, .ref n_typed, .ref n_disk, .ref n_wants, .int zat, .int zend, .int zline, .ref n_labelFrom, .ref n_labelSize, .ref n_labelAddress, .int zlabels, .int zfault, .int zfaultLine, .int zisTold, .int zaddress, .ref n_made, .int zmissing, .int zgood, .int zvalue, .int zvalueFrom, .int zvalueSize, .int zme])), (n_tape, .inl (E.2.1 2, 3000, .inl ztape)), (n_wants, .inl (E.2.1 0, 25, .inl zwants)), (n_labelFrom, .inl (E.2.1 0, 100, .inl zlabelFrom)), (n_labelSize, .inl (E.2.1 0, 100, .inl zlabelSize)), (n_labelAddress, .inl (E.2.1 0, 100, .inl zlabelAddress)), (n_made, .inl (E.2.1 0, 1024, .inl zmade))] H → va_D A [(n0, .inr (6, [.ref n_tape, .int ztaped, .ref n_isThere, .ref n_size, .ref n_depth, .ref n_memory, .ref n_register, .ref n_mode, .ref n_pc, .ref n_base, .ref n_bound, .ref n_timer, .ref n_ranOut, .ref n_halted, .ref n_steps, .ref n_outs, .ref n_output, .ref n_waits, .ref n_typed, .ref n_disk, .ref n_wants, .int zat, .int zend, .int zline, .ref n_labelFrom, .ref n_labelSize, .ref n_labelAddress, .int zlabels, .int zfault, .int zfaultLine, .int zisTold, .int zaddress, .ref n_made, .int zmissing, .int zgood, .int zvalue, .int zvalueFrom, .int zvalueSize, .int zme])), (n_tape, .inl (E.2.1 2, 3000, .inl ztape)), (n_wants, .inl (E.2.1 0, 25, .inl zwants)), (n_labelFrom, .inl (E.2.1 0, 100, .inl zlabelFrom)), (n_labelSize, .inl (E.2.1 0, 100, .inl zlabelSize)), (n_labelAddress, .inl (E.2.1 0, 100, .inl zlabelAddress)), (n_made, .inl (E.2.1 0, 1024, .inl zmade))] → va_S A s.heap H locs → lv_has ls 11 [(0, .ref n0), (1, .int x1), (2, .int x2), (4, .int x4), (5, .int x5), (6, .int x6), (7, .int x7), (8, .int x8), (9, .int x9)] → W p l e ({ frames := 3, cells := 0, slots := 0, locals := 64 }) s m ([.ref n0, .int p1, .int p2] : List Value).toArray below meth c H locs 0 0 (MQ below (va_Qi (fun (r' : Int32) (u : va_W) => r' = o_r ∧ u = [(n0, .inr (6, [.ref n_tape, .int ztaped, .ref n_isThere, .ref n_size, .ref n_depth, .ref n_memory, .ref n_register, .ref n_mode, .ref n_pc, .ref n_base, .ref n_bound, .ref n_timer, .ref n_ranOut, .ref n_halted, .ref n_steps, .ref n_outs, .ref n_output, .ref n_waits, .ref n_typed, .ref n_disk, .ref n_wants, .int o_zat, .int zend, .int zline, .ref n_labelFrom, .ref n_labelSize, .ref n_labelAddress, .int o_zlabels, .int zfault, .int zfaultLine, .int zisTold, .int o_zaddress, .ref n_made, .int o_zmissing, .int o_zgood, .int o_zvalue, .int o_zvalueFrom, .int o_zvalueSize, .int zme])), (n_tape, .inl (E.2.1 2, 3000, .inl ztape)), (n_wants, .inl (E.2.1 0, 25, .inl zwants)), (n_labelFrom, .inl (E.2.1 0, 100, .inl o_zlabelFrom)), (n_labelSize, .inl (E.2.1 0, 100, .inl o_zlabelSize)), (n_labelAddress, .inl (E.2.1 0, 100, .inl o_zlabelAddress)), (n_made, .inl (E.2.1 0, 1024, .inl o_zmade))]) (BW E A) A) ([.ref n0, .int p1, .int p2] : List Value).toArray s 0 0 A) (F0 m 334 ls []) := by
  intro ztaped zat zend zline zlabels zfault zfaultLine zisTold zaddress zmissing zgood zvalue zvalueFrom zvalueSize zme ztape zwants zlabelFrom zlabelSize zlabelAddress zmade x1 x2 x4 x5 x6 x7 x8 x9 H locs ls h hP hD hS hl
  rw [b_MD_oneLine_334] at h
  refine lv_aload_n J.1 J.2.1 d_MD_oneLine_334 rfl (lv_at hl 0 rfl) ?_
  refine jg J hJ hP 0 rfl rfl i_MD 34 (by decide) gf_MD_177 rfl d_MD_oneLine_335 ?_
  refine lv_if_eq (tgt := 364) J.1 J.2.1 d_MD_oneLine_338 (by decide) (fun c_27 => ?_) (fun c_27 => ?_)
  · replace h := g_t c_27 h
    exact kb_MD_oneLine_364 J hJ hA hZ _ _ _ _ _ _ _ _ _ _ _ _ _ _ _ _ _ _ _ _ _ _ _ _ _ _ _ _ _ _ _ _ h hP hD hS (lv_sub hl [0, 1, 2, 3, 4, 5, 6, 7, 8] rfl)
  · replace h := g_f c_27 h
    refine lv_iload J.1 J.2.1 d_MD_oneLine_341 (lv_at hl 6 rfl) ?_
    refine lv_bipush (v := 27) J.1 J.2.1 d_MD_oneLine_343 (by decide) ?_
    refine lv_icmp_ne (tgt := 364) J.1 J.2.1 d_MD_oneLine_345 (by decide) (fun c_28 => ?_) (fun c_28 => ?_)
    · replace h := g_f c_28 h
      exact kb_MD_oneLine_364 J hJ hA hZ _ _ _ _ _ _ _ _ _ _ _ _ _ _ _ _ _ _ _ _ _ _ _ _ _ _ _ _ _ _ _ _ h hP hD hS (lv_sub hl [0, 1, 2, 3, 4, 5, 6, 7, 8] rfl)
    · replace h := g_t c_28 h
      refine lv_aload_n J.1 J.2.1 d_MD_oneLine_348 rfl (lv_at hl 0 rfl) ?_
      refine jg J hJ hP 0 rfl rfl i_MD 35 (by decide) gf_MD_191 rfl d_MD_oneLine_349 ?_
      refine lv_aload_n J.1 J.2.1 d_MD_oneLine_352 rfl (lv_at hl 0 rfl) ?_
      refine jg J hJ hP 0 rfl rfl i_MD 31 (by decide) gf_MD_214 rfl d_MD_oneLine_353 ?_
      refine lv_icmp_ge (tgt := 364) J.1 J.2.1 d_MD_oneLine_356 (by decide) (fun c_29 => ?_) (fun c_29 => ?_)
      · replace h := g_t c_29 h
        exact kb_MD_oneLine_364 J hJ hA hZ _ _ _ _ _ _ _ _ _ _ _ _ _ _ _ _ _ _ _ _ _ _ _ _ _ _ _ _ _ _ _ _ h hP hD hS (lv_sub hl [0, 1, 2, 3, 4, 5, 6, 7, 8] rfl)
      · replace h := g_f c_29 h
        refine lv_aload_n J.1 J.2.1 d_MD_oneLine_359 rfl (lv_at hl 0 rfl) ?_
        refine lv_iconst (v := 0) J.1 J.2.1 d_MD_oneLine_360 (by decide) ?_
        refine jp J hJ hP hD hS 0 rfl rfl i_MD t_MD t_MD_ok n_MD 34 (by decide) gf_MD_177 rfl rfl rfl (Nat.le_of_ble_eq_true rfl) d_MD_oneLine_361 (WS' := [(n0, .inr (6, [.ref n_tape, .int ztaped, .ref n_isThere, .ref n_size, .ref n_depth, .ref n_memory, .ref n_register, .ref n_mode, .ref n_pc, .ref n_base, .ref n_bound, .ref n_timer, .ref n_ranOut, .ref n_halted, .ref n_steps, .ref n_outs, .ref n_output, .ref n_waits, .ref n_typed, .ref n_disk, .ref n_wants, .int zat, .int zend, .int zline, .ref n_labelFrom, .ref n_labelSize, .ref n_labelAddress, .int zlabels, .int zfault, .int zfaultLine, .int zisTold, .int zaddress, .ref n_made, .int zmissing, .int 0, .int zvalue, .int zvalueFrom, .int zvalueSize, .int zme])), (n_tape, .inl (E.2.1 2, 3000, .inl ztape)), (n_wants, .inl (E.2.1 0, 25, .inl zwants)), (n_labelFrom, .inl (E.2.1 0, 100, .inl zlabelFrom)), (n_labelSize, .inl (E.2.1 0, 100, .inl zlabelSize)), (n_labelAddress, .inl (E.2.1 0, 100, .inl zlabelAddress)), (n_made, .inl (E.2.1 0, 1024, .inl zmade))]) rfl ?_
        clear hP hD hS
        intro H locs hP hD hS
        exact kb_MD_oneLine_364 J hJ hA hZ _ _ _ _ _ _ _ _ _ _ _ _ _ _ _ _ _ _ _ _ _ _ _ _ _ _ _ _ _ _ _ _ h hP hD hS (lv_sub hl [0, 1, 2, 3, 4, 5, 6, 7, 8] rfl)
set_option maxHeartbeats 4000000 in
set_option maxRecDepth 100000 in
theorem kb_MD_oneLine_307 {p : Program} {l : Launch} {e : Env} {s : State} {m : MethodId} {below : List Frame} {meth : Method} {c : Code} {A : Nat → Prop} {E : jz_E} {n0 n_base n_bound n_depth n_disk n_halted n_isThere n_labelAddress n_labelFrom n_labelSize n_made n_memory n_mode n_output n_outs n_pc n_ranOut n_register n_size n_steps n_tape n_timer n_typed n_waits n_wants : Nat} {p1 : Int32} {p2 : Int32} {o_r : Int32} {o_zat : Int32} {o_zlabels : Int32} {o_zaddress : Int32} {o_zmissing : Int32} {o_zgood : Int32} {o_zvalue : Int32} {o_zvalueFrom : Int32} {o_zvalueSize : Int32} {o_zlabelFrom : Nat → Int32} {o_zlabelSize : Nat → Int32} {o_zlabelAddress : Nat → Int32} {o_zmade : Nat → Int32} (J : JC p s m ([.ref n0, .int p1, .int p2] : List Value).toArray meth c c_MD_oneLine 11 (some .int) y_MD_oneLine.cls) (hJ : jE E s) (hA : ∀ q : Nat, s.heap.size ≤ q → A q) (hZ : jz_ok E A s s.heap) : ∀ (ztaped : Int32) (zat : Int32) (zend : Int32) (zline : Int32) (zlabels : Int32) (zfault : Int32) (zfaultLine : Int32) (zisTold : Int32) (zaddress : Int32) (zmissing : Int32) (zgood : Int32) (zvalue : Int32) (zvalueFrom : Int32) (zvalueSize : Int32) (zme : Int32) (ztape : Nat → Int32) (zwants : Nat → Int32) (zlabelFrom : Nat → Int32) (zlabelSize : Nat → Int32) (zlabelAddress : Nat → Int32) (zmade : Nat → Int32) (x1 : Int32) (x2 : Int32) (x4 : Int32) (x5 : Int32) (x6 : Int32) (x7 : Int32) (x8 : Int32) (x9 : Int32) (H : Heap) (locs : List Loc) (ls : Array Slot), b_MD_oneLine_307 zat zend zline zlabels zaddress zmissing zgood zvalue zvalueFrom zvalueSize ztape zlabelFrom zlabelSize zlabelAddress zmade x1 x2 x4 x5 x6 x7 x8 x9 = some (o_r, o_zat, o_zlabels, o_zaddress, o_zmissing, o_zgood, o_zvalue, o_zvalueFrom, o_zvalueSize, o_zlabelFrom, o_zlabelSize, o_zlabelAddress, o_zmade) → va_P E.1 classes [(n0, .inr (6, [.ref n_tape, .int ztaped, .ref n_isThere, .ref n_size, .ref n_depth, .ref n_memory, .ref n_register, .ref n_mode, .ref n_pc, .ref n_base, .ref n_bound, .ref n_timer, .ref n_ranOut, .ref n_halted, .ref n_steps, .ref n_outs, .ref n_output, .ref n_waits, .ref n_typed, .ref n_disk, .ref n_wants, .int zat, .int zend, .int zline, .ref n_labelFrom, .ref n_labelSize, .ref n_labelAddress, .int zlabels, .int zfault, .int zfaultLine, .int zisTold, .int zaddress, .ref n_made, .int zmissing, .int zgood, .int zvalue, .int zvalueFrom, .int zvalueSize, .int zme])), (n_tape, .inl (E.2.1 2, 3000, .inl ztape)), (n_wants, .inl (E.2.1 0, 25, .inl zwants)), (n_labelFrom, .inl (E.2.1 0, 100, .inl zlabelFrom)), (n_labelSize, .inl (E.2.1 0, 100, .inl zlabelSize)), (n_labelAddress, .inl (E.2.1 0, 100, .inl zlabelAddress)), (n_made, .inl (E.2.1 0, 1024, .inl zmade))] H → va_D A [(n0, .inr (6, [.ref n_tape, .int ztaped, .ref n_isThere, .ref n_size, .ref n_depth, .ref n_memory, .ref n_register, .ref n_mode, .ref n_pc, .ref n_base, .ref n_bound, .ref n_timer, .ref n_ranOut, .ref n_halted, .ref n_steps, .ref n_outs, .ref n_output, .ref n_waits, .ref n_typed, .ref n_disk, .ref n_wants, .int zat, .int zend, .int zline, .ref n_labelFrom, .ref n_labelSize, .ref n_labelAddress, .int zlabels, .int zfault, .int zfaultLine, .int zisTold, .int zaddress, .ref n_made, .int zmissing, .int zgood, .int zvalue, .int zvalueFrom, .int zvalueSize, .int zme])), (n_tape, .inl (E.2.1 2, 3000, .inl ztape)), (n_wants, .inl (E.2.1 0, 25, .inl zwants)), (n_labelFrom, .inl (E.2.1 0, 100, .inl zlabelFrom)), (n_labelSize, .inl (E.2.1 0, 100, .inl zlabelSize)), (n_labelAddress, .inl (E.2.1 0, 100, .inl zlabelAddress)), (n_made, .inl (E.2.1 0, 1024, .inl zmade))] → va_S A s.heap H locs → lv_has ls 11 [(0, .ref n0), (1, .int x1), (2, .int x2), (4, .int x4), (5, .int x5), (6, .int x6), (7, .int x7), (8, .int x8), (9, .int x9)] → W p l e ({ frames := 3, cells := 0, slots := 0, locals := 64 }) s m ([.ref n0, .int p1, .int p2] : List Value).toArray below meth c H locs 0 0 (MQ below (va_Qi (fun (r' : Int32) (u : va_W) => r' = o_r ∧ u = [(n0, .inr (6, [.ref n_tape, .int ztaped, .ref n_isThere, .ref n_size, .ref n_depth, .ref n_memory, .ref n_register, .ref n_mode, .ref n_pc, .ref n_base, .ref n_bound, .ref n_timer, .ref n_ranOut, .ref n_halted, .ref n_steps, .ref n_outs, .ref n_output, .ref n_waits, .ref n_typed, .ref n_disk, .ref n_wants, .int o_zat, .int zend, .int zline, .ref n_labelFrom, .ref n_labelSize, .ref n_labelAddress, .int o_zlabels, .int zfault, .int zfaultLine, .int zisTold, .int o_zaddress, .ref n_made, .int o_zmissing, .int o_zgood, .int o_zvalue, .int o_zvalueFrom, .int o_zvalueSize, .int zme])), (n_tape, .inl (E.2.1 2, 3000, .inl ztape)), (n_wants, .inl (E.2.1 0, 25, .inl zwants)), (n_labelFrom, .inl (E.2.1 0, 100, .inl o_zlabelFrom)), (n_labelSize, .inl (E.2.1 0, 100, .inl o_zlabelSize)), (n_labelAddress, .inl (E.2.1 0, 100, .inl o_zlabelAddress)), (n_made, .inl (E.2.1 0, 1024, .inl o_zmade))]) (BW E A) A) ([.ref n0, .int p1, .int p2] : List Value).toArray s 0 0 A) (F0 m 307 ls []) := by
  intro ztaped zat zend zline zlabels zfault zfaultLine zisTold zaddress zmissing zgood zvalue zvalueFrom zvalueSize zme ztape zwants zlabelFrom zlabelSize zlabelAddress zmade x1 x2 x4 x5 x6 x7 x8 x9 H locs ls h hP hD hS hl
  rw [b_MD_oneLine_307] at h
  refine lv_aload_n J.1 J.2.1 d_MD_oneLine_307 rfl (lv_at hl 0 rfl) ?_
  replace h := g_bd h
  obtain ⟨zat_30, q_30, h⟩ := h
  have hq := ct_MD_blanks l E n0 n_base n_bound n_depth n_disk n_halted n_isThere n_labelAddress n_labelFrom n_labelSize n_made n_memory n_mode n_output n_outs n_pc n_ranOut n_register n_size n_steps n_tape n_timer n_typed n_waits n_wants H.size ztaped zat zend zline zlabels zfault zfaultLine zisTold zaddress zmissing zgood zvalue zvalueFrom zvalueSize zme ztape zat_30 q_30
  have hr := jrunV (p := p) (e := e) (below := below) (R := ({ frames := 3, cells := 0, slots := 0, locals := 64 })) (cells := 0) (slots := 0) (As := []) (rest := []) J hJ hA hZ hP hD hS hq [0, 1] rfl (by decide) gl_MD_181 gi_MD_blanks gsel_MD_blanks gini_MD gc_MD_blanks hd_MD_blanks ⟨rfl, rfl, Nat.le_of_ble_eq_true rfl, Nat.le_of_ble_eq_true rfl⟩ rfl rfl hl.1 rfl rfl (Nat.le_of_ble_eq_true rfl) d_MD_oneLine_308 ⟨Nat.zero_le _, Nat.zero_le _⟩
  clear hq
  refine jk_v hr hA hP hD hS [0, 1] [2, 3, 4, 5, 6] (WR := [(n_wants, .inl (E.2.1 0, 25, .inl zwants)), (n_labelFrom, .inl (E.2.1 0, 100, .inl zlabelFrom)), (n_labelSize, .inl (E.2.1 0, 100, .inl zlabelSize)), (n_labelAddress, .inl (E.2.1 0, 100, .inl zlabelAddress)), (n_made, .inl (E.2.1 0, 1024, .inl zmade))]) rfl rfl (by decide) (by decide) [5, 6, 0, 1, 2, 3, 4] (WF := [(n0, .inr (6, [.ref n_tape, .int ztaped, .ref n_isThere, .ref n_size, .ref n_depth, .ref n_memory, .ref n_register, .ref n_mode, .ref n_pc, .ref n_base, .ref n_bound, .ref n_timer, .ref n_ranOut, .ref n_halted, .ref n_steps, .ref n_outs, .ref n_output, .ref n_waits, .ref n_typed, .ref n_disk, .ref n_wants, .int zat_30, .int zend, .int zline, .ref n_labelFrom, .ref n_labelSize, .ref n_labelAddress, .int zlabels, .int zfault, .int zfaultLine, .int zisTold, .int zaddress, .ref n_made, .int zmissing, .int zgood, .int zvalue, .int zvalueFrom, .int zvalueSize, .int zme])), (n_tape, .inl (E.2.1 2, 3000, .inl ztape)), (n_wants, .inl (E.2.1 0, 25, .inl zwants)), (n_labelFrom, .inl (E.2.1 0, 100, .inl zlabelFrom)), (n_labelSize, .inl (E.2.1 0, 100, .inl zlabelSize)), (n_labelAddress, .inl (E.2.1 0, 100, .inl zlabelAddress)), (n_made, .inl (E.2.1 0, 1024, .inl zmade))]) rfl (by decide) ?_
  clear hP hD hS
  intro H locs hP hD hS
  clear hr
  refine lv_aload_n J.1 J.2.1 d_MD_oneLine_311 rfl (lv_at hl 0 rfl) ?_
  refine lv_aload_n J.1 J.2.1 d_MD_oneLine_312 rfl (lv_at hl 0 rfl) ?_
  refine jg J hJ hP 0 rfl rfl i_MD 34 (by decide) gf_MD_177 rfl d_MD_oneLine_313 ?_
  refine lv_if_eq (tgt := 330) J.1 J.2.1 d_MD_oneLine_316 (by decide) (fun c_31 => ?_) (fun c_31 => ?_)
  · replace h := g_t c_31 h
    refine lv_iconst (v := 0) J.1 J.2.1 d_MD_oneLine_330 (by decide) ?_
    refine jp J hJ hP hD hS 0 rfl rfl i_MD t_MD t_MD_ok n_MD 34 (by decide) gf_MD_177 rfl rfl rfl (Nat.le_of_ble_eq_true rfl) d_MD_oneLine_331 (WS' := [(n0, .inr (6, [.ref n_tape, .int ztaped, .ref n_isThere, .ref n_size, .ref n_depth, .ref n_memory, .ref n_register, .ref n_mode, .ref n_pc, .ref n_base, .ref n_bound, .ref n_timer, .ref n_ranOut, .ref n_halted, .ref n_steps, .ref n_outs, .ref n_output, .ref n_waits, .ref n_typed, .ref n_disk, .ref n_wants, .int zat_30, .int zend, .int zline, .ref n_labelFrom, .ref n_labelSize, .ref n_labelAddress, .int zlabels, .int zfault, .int zfaultLine, .int zisTold, .int zaddress, .ref n_made, .int zmissing, .int 0, .int zvalue, .int zvalueFrom, .int zvalueSize, .int zme])), (n_tape, .inl (E.2.1 2, 3000, .inl ztape)), (n_wants, .inl (E.2.1 0, 25, .inl zwants)), (n_labelFrom, .inl (E.2.1 0, 100, .inl zlabelFrom)), (n_labelSize, .inl (E.2.1 0, 100, .inl zlabelSize)), (n_labelAddress, .inl (E.2.1 0, 100, .inl zlabelAddress)), (n_made, .inl (E.2.1 0, 1024, .inl zmade))]) rfl ?_
    clear hP hD hS
    intro H locs hP hD hS
    exact kb_MD_oneLine_334 J hJ hA hZ _ _ _ _ _ _ _ _ _ _ _ _ _ _ _ _ _ _ _ _ _ _ _ _ _ _ _ _ _ _ _ _ h hP hD hS (lv_sub hl [0, 1, 2, 3, 4, 5, 6, 7, 8] rfl)
  · replace h := g_f c_31 h
    refine lv_aload_n J.1 J.2.1 d_MD_oneLine_319 rfl (lv_at hl 0 rfl) ?_
    replace h := g_bd h
    obtain ⟨r_32, q_32, h⟩ := h
    have hq := ct_MD_isOver l E n0 n_base n_bound n_depth n_disk n_halted n_isThere n_labelAddress n_labelFrom n_labelSize n_made n_memory n_mode n_output n_outs n_pc n_ranOut n_register n_size n_steps n_tape n_timer n_typed n_waits n_wants H.size ztaped zat_30 zend zline zlabels zfault zfaultLine zisTold zaddress zmissing zgood zvalue zvalueFrom zvalueSize zme ztape r_32 q_32
    have hr := jrunV (p := p) (e := e) (below := below) (R := ({ frames := 3, cells := 0, slots := 0, locals := 64 })) (cells := 0) (slots := 0) (As := []) (rest := [.ref n0]) J hJ hA hZ hP hD hS hq [0, 1] rfl (by decide) gl_MD_217 gi_MD_isOver gsel_MD_isOver gini_MD gc_MD_isOver hd_MD_isOver ⟨rfl, rfl, Nat.le_of_ble_eq_true rfl, Nat.le_of_ble_eq_true rfl⟩ rfl rfl hl.1 rfl rfl (Nat.le_of_ble_eq_true rfl) d_MD_oneLine_320 ⟨Nat.zero_le _, Nat.zero_le _⟩
    clear hq
    refine jk_i hr hA hP hD hS [0, 1] [2, 3, 4, 5, 6] (WR := [(n_wants, .inl (E.2.1 0, 25, .inl zwants)), (n_labelFrom, .inl (E.2.1 0, 100, .inl zlabelFrom)), (n_labelSize, .inl (E.2.1 0, 100, .inl zlabelSize)), (n_labelAddress, .inl (E.2.1 0, 100, .inl zlabelAddress)), (n_made, .inl (E.2.1 0, 1024, .inl zmade))]) rfl rfl (by decide) (by decide) [5, 6, 0, 1, 2, 3, 4] (WF := [(n0, .inr (6, [.ref n_tape, .int ztaped, .ref n_isThere, .ref n_size, .ref n_depth, .ref n_memory, .ref n_register, .ref n_mode, .ref n_pc, .ref n_base, .ref n_bound, .ref n_timer, .ref n_ranOut, .ref n_halted, .ref n_steps, .ref n_outs, .ref n_output, .ref n_waits, .ref n_typed, .ref n_disk, .ref n_wants, .int zat_30, .int zend, .int zline, .ref n_labelFrom, .ref n_labelSize, .ref n_labelAddress, .int zlabels, .int zfault, .int zfaultLine, .int zisTold, .int zaddress, .ref n_made, .int zmissing, .int zgood, .int zvalue, .int zvalueFrom, .int zvalueSize, .int zme])), (n_tape, .inl (E.2.1 2, 3000, .inl ztape)), (n_wants, .inl (E.2.1 0, 25, .inl zwants)), (n_labelFrom, .inl (E.2.1 0, 100, .inl zlabelFrom)), (n_labelSize, .inl (E.2.1 0, 100, .inl zlabelSize)), (n_labelAddress, .inl (E.2.1 0, 100, .inl zlabelAddress)), (n_made, .inl (E.2.1 0, 1024, .inl zmade))]) rfl (by decide) ?_
    clear hP hD hS
    intro H locs hP hD hS
    clear hr
    refine lv_if_eq (tgt := 330) J.1 J.2.1 d_MD_oneLine_323 (by decide) (fun c_33 => ?_) (fun c_33 => ?_)
    · replace h := g_t c_33 h
      refine lv_iconst (v := 0) J.1 J.2.1 d_MD_oneLine_330 (by decide) ?_
      refine jp J hJ hP hD hS 0 rfl rfl i_MD t_MD t_MD_ok n_MD 34 (by decide) gf_MD_177 rfl rfl rfl (Nat.le_of_ble_eq_true rfl) d_MD_oneLine_331 (WS' := [(n0, .inr (6, [.ref n_tape, .int ztaped, .ref n_isThere, .ref n_size, .ref n_depth, .ref n_memory, .ref n_register, .ref n_mode, .ref n_pc, .ref n_base, .ref n_bound, .ref n_timer, .ref n_ranOut, .ref n_halted, .ref n_steps, .ref n_outs, .ref n_output, .ref n_waits, .ref n_typed, .ref n_disk, .ref n_wants, .int zat_30, .int zend, .int zline, .ref n_labelFrom, .ref n_labelSize, .ref n_labelAddress, .int zlabels, .int zfault, .int zfaultLine, .int zisTold, .int zaddress, .ref n_made, .int zmissing, .int 0, .int zvalue, .int zvalueFrom, .int zvalueSize, .int zme])), (n_tape, .inl (E.2.1 2, 3000, .inl ztape)), (n_wants, .inl (E.2.1 0, 25, .inl zwants)), (n_labelFrom, .inl (E.2.1 0, 100, .inl zlabelFrom)), (n_labelSize, .inl (E.2.1 0, 100, .inl zlabelSize)), (n_labelAddress, .inl (E.2.1 0, 100, .inl zlabelAddress)), (n_made, .inl (E.2.1 0, 1024, .inl zmade))]) rfl ?_
      clear hP hD hS
      intro H locs hP hD hS
      exact kb_MD_oneLine_334 J hJ hA hZ _ _ _ _ _ _ _ _ _ _ _ _ _ _ _ _ _ _ _ _ _ _ _ _ _ _ _ _ _ _ _ _ h hP hD hS (lv_sub hl [0, 1, 2, 3, 4, 5, 6, 7, 8] rfl)
    · replace h := g_f c_33 h
      refine lv_iconst (v := 1) J.1 J.2.1 d_MD_oneLine_326 (by decide) ?_
      refine lv_goto (tgt := 331) J.1 J.2.1 d_MD_oneLine_327 (by decide) ?_
      refine jp J hJ hP hD hS 0 rfl rfl i_MD t_MD t_MD_ok n_MD 34 (by decide) gf_MD_177 rfl rfl rfl (Nat.le_of_ble_eq_true rfl) d_MD_oneLine_331 (WS' := [(n0, .inr (6, [.ref n_tape, .int ztaped, .ref n_isThere, .ref n_size, .ref n_depth, .ref n_memory, .ref n_register, .ref n_mode, .ref n_pc, .ref n_base, .ref n_bound, .ref n_timer, .ref n_ranOut, .ref n_halted, .ref n_steps, .ref n_outs, .ref n_output, .ref n_waits, .ref n_typed, .ref n_disk, .ref n_wants, .int zat_30, .int zend, .int zline, .ref n_labelFrom, .ref n_labelSize, .ref n_labelAddress, .int zlabels, .int zfault, .int zfaultLine, .int zisTold, .int zaddress, .ref n_made, .int zmissing, .int 1, .int zvalue, .int zvalueFrom, .int zvalueSize, .int zme])), (n_tape, .inl (E.2.1 2, 3000, .inl ztape)), (n_wants, .inl (E.2.1 0, 25, .inl zwants)), (n_labelFrom, .inl (E.2.1 0, 100, .inl zlabelFrom)), (n_labelSize, .inl (E.2.1 0, 100, .inl zlabelSize)), (n_labelAddress, .inl (E.2.1 0, 100, .inl zlabelAddress)), (n_made, .inl (E.2.1 0, 1024, .inl zmade))]) rfl ?_
      clear hP hD hS
      intro H locs hP hD hS
      exact kb_MD_oneLine_334 J hJ hA hZ _ _ _ _ _ _ _ _ _ _ _ _ _ _ _ _ _ _ _ _ _ _ _ _ _ _ _ _ _ _ _ _ h hP hD hS (lv_sub hl [0, 1, 2, 3, 4, 5, 6, 7, 8] rfl)
set_option maxHeartbeats 4000000 in
set_option maxRecDepth 100000 in
theorem kb_MD_oneLine_284 {p : Program} {l : Launch} {e : Env} {s : State} {m : MethodId} {below : List Frame} {meth : Method} {c : Code} {A : Nat → Prop} {E : jz_E} {n0 n_base n_bound n_depth n_disk n_halted n_isThere n_labelAddress n_labelFrom n_labelSize n_made n_memory n_mode n_output n_outs n_pc n_ranOut n_register n_size n_steps n_tape n_timer n_typed n_waits n_wants : Nat} {p1 : Int32} {p2 : Int32} {o_r : Int32} {o_zat : Int32} {o_zlabels : Int32} {o_zaddress : Int32} {o_zmissing : Int32} {o_zgood : Int32} {o_zvalue : Int32} {o_zvalueFrom : Int32} {o_zvalueSize : Int32} {o_zlabelFrom : Nat → Int32} {o_zlabelSize : Nat → Int32} {o_zlabelAddress : Nat → Int32} {o_zmade : Nat → Int32} (J : JC p s m ([.ref n0, .int p1, .int p2] : List Value).toArray meth c c_MD_oneLine 11 (some .int) y_MD_oneLine.cls) (hJ : jE E s) (hA : ∀ q : Nat, s.heap.size ≤ q → A q) (hZ : jz_ok E A s s.heap) : ∀ (ztaped : Int32) (zat : Int32) (zend : Int32) (zline : Int32) (zlabels : Int32) (zfault : Int32) (zfaultLine : Int32) (zisTold : Int32) (zaddress : Int32) (zmissing : Int32) (zgood : Int32) (zvalue : Int32) (zvalueFrom : Int32) (zvalueSize : Int32) (zme : Int32) (ztape : Nat → Int32) (zwants : Nat → Int32) (zlabelFrom : Nat → Int32) (zlabelSize : Nat → Int32) (zlabelAddress : Nat → Int32) (zmade : Nat → Int32) (x1 : Int32) (x2 : Int32) (x4 : Int32) (x5 : Int32) (x6 : Int32) (x7 : Int32) (x8 : Int32) (x9 : Int32) (H : Heap) (locs : List Loc) (ls : Array Slot), b_MD_oneLine_284 zat zend zline zlabels zaddress zmissing zgood zvalue zvalueFrom zvalueSize ztape zlabelFrom zlabelSize zlabelAddress zmade x1 x2 x4 x5 x6 x7 x8 x9 = some (o_r, o_zat, o_zlabels, o_zaddress, o_zmissing, o_zgood, o_zvalue, o_zvalueFrom, o_zvalueSize, o_zlabelFrom, o_zlabelSize, o_zlabelAddress, o_zmade) → va_P E.1 classes [(n0, .inr (6, [.ref n_tape, .int ztaped, .ref n_isThere, .ref n_size, .ref n_depth, .ref n_memory, .ref n_register, .ref n_mode, .ref n_pc, .ref n_base, .ref n_bound, .ref n_timer, .ref n_ranOut, .ref n_halted, .ref n_steps, .ref n_outs, .ref n_output, .ref n_waits, .ref n_typed, .ref n_disk, .ref n_wants, .int zat, .int zend, .int zline, .ref n_labelFrom, .ref n_labelSize, .ref n_labelAddress, .int zlabels, .int zfault, .int zfaultLine, .int zisTold, .int zaddress, .ref n_made, .int zmissing, .int zgood, .int zvalue, .int zvalueFrom, .int zvalueSize, .int zme])), (n_tape, .inl (E.2.1 2, 3000, .inl ztape)), (n_wants, .inl (E.2.1 0, 25, .inl zwants)), (n_labelFrom, .inl (E.2.1 0, 100, .inl zlabelFrom)), (n_labelSize, .inl (E.2.1 0, 100, .inl zlabelSize)), (n_labelAddress, .inl (E.2.1 0, 100, .inl zlabelAddress)), (n_made, .inl (E.2.1 0, 1024, .inl zmade))] H → va_D A [(n0, .inr (6, [.ref n_tape, .int ztaped, .ref n_isThere, .ref n_size, .ref n_depth, .ref n_memory, .ref n_register, .ref n_mode, .ref n_pc, .ref n_base, .ref n_bound, .ref n_timer, .ref n_ranOut, .ref n_halted, .ref n_steps, .ref n_outs, .ref n_output, .ref n_waits, .ref n_typed, .ref n_disk, .ref n_wants, .int zat, .int zend, .int zline, .ref n_labelFrom, .ref n_labelSize, .ref n_labelAddress, .int zlabels, .int zfault, .int zfaultLine, .int zisTold, .int zaddress, .ref n_made, .int zmissing, .int zgood, .int zvalue, .int zvalueFrom, .int zvalueSize, .int zme])), (n_tape, .inl (E.2.1 2, 3000, .inl ztape)), (n_wants, .inl (E.2.1 0, 25, .inl zwants)), (n_labelFrom, .inl (E.2.1 0, 100, .inl zlabelFrom)), (n_labelSize, .inl (E.2.1 0, 100, .inl zlabelSize)), (n_labelAddress, .inl (E.2.1 0, 100, .inl zlabelAddress)), (n_made, .inl (E.2.1 0, 1024, .inl zmade))] → va_S A s.heap H locs → lv_has ls 11 [(0, .ref n0), (1, .int x1), (2, .int x2), (4, .int x4), (5, .int x5), (6, .int x6), (7, .int x7), (8, .int x8), (9, .int x9)] → W p l e ({ frames := 3, cells := 0, slots := 0, locals := 64 }) s m ([.ref n0, .int p1, .int p2] : List Value).toArray below meth c H locs 0 0 (MQ below (va_Qi (fun (r' : Int32) (u : va_W) => r' = o_r ∧ u = [(n0, .inr (6, [.ref n_tape, .int ztaped, .ref n_isThere, .ref n_size, .ref n_depth, .ref n_memory, .ref n_register, .ref n_mode, .ref n_pc, .ref n_base, .ref n_bound, .ref n_timer, .ref n_ranOut, .ref n_halted, .ref n_steps, .ref n_outs, .ref n_output, .ref n_waits, .ref n_typed, .ref n_disk, .ref n_wants, .int o_zat, .int zend, .int zline, .ref n_labelFrom, .ref n_labelSize, .ref n_labelAddress, .int o_zlabels, .int zfault, .int zfaultLine, .int zisTold, .int o_zaddress, .ref n_made, .int o_zmissing, .int o_zgood, .int o_zvalue, .int o_zvalueFrom, .int o_zvalueSize, .int zme])), (n_tape, .inl (E.2.1 2, 3000, .inl ztape)), (n_wants, .inl (E.2.1 0, 25, .inl zwants)), (n_labelFrom, .inl (E.2.1 0, 100, .inl o_zlabelFrom)), (n_labelSize, .inl (E.2.1 0, 100, .inl o_zlabelSize)), (n_labelAddress, .inl (E.2.1 0, 100, .inl o_zlabelAddress)), (n_made, .inl (E.2.1 0, 1024, .inl o_zmade))]) (BW E A) A) ([.ref n0, .int p1, .int p2] : List Value).toArray s 0 0 A) (F0 m 284 ls []) := by
  intro ztaped zat zend zline zlabels zfault zfaultLine zisTold zaddress zmissing zgood zvalue zvalueFrom zvalueSize zme ztape zwants zlabelFrom zlabelSize zlabelAddress zmade x1 x2 x4 x5 x6 x7 x8 x9 H locs ls h hP hD hS hl
  rw [b_MD_oneLine_284] at h
  refine lv_aload_n J.1 J.2.1 d_MD_oneLine_284 rfl (lv_at hl 0 rfl) ?_
  refine jg J hJ hP 0 rfl rfl i_MD 34 (by decide) gf_MD_177 rfl d_MD_oneLine_285 ?_
  refine lv_if_eq (tgt := 307) J.1 J.2.1 d_MD_oneLine_288 (by decide) (fun c_34 => ?_) (fun c_34 => ?_)
  · replace h := g_t c_34 h
    exact kb_MD_oneLine_307 J hJ hA hZ _ _ _ _ _ _ _ _ _ _ _ _ _ _ _ _ _ _ _ _ _ _ _ _ _ _ _ _ _ _ _ _ h hP hD hS (lv_sub hl [0, 1, 2, 3, 4, 5, 6, 7, 8] rfl)
  · replace h := g_f c_34 h
    refine lv_aload_n J.1 J.2.1 d_MD_oneLine_291 rfl (lv_at hl 0 rfl) ?_
    refine lv_iload J.1 J.2.1 d_MD_oneLine_292 (lv_at hl 6 rfl) ?_
    refine lv_bipush (v := 25) J.1 J.2.1 d_MD_oneLine_294 (by decide) ?_
    refine lv_icmp_le (tgt := 303) J.1 J.2.1 d_MD_oneLine_296 (by decide) (fun c_35 => ?_) (fun c_35 => ?_)
    · replace h := g_t c_35 h
      refine lv_iconst (v := 0) J.1 J.2.1 d_MD_oneLine_303 (by decide) ?_
      replace h := g_bd h
      obtain ⟨⟨zat_36, zgood_36, zvalue_36, zvalueFrom_36, zvalueSize_36⟩, q_36, h⟩ := h
      try dsimp only at h
      have hq := ct_MD_value l E n0 n_base n_bound n_depth n_disk n_halted n_isThere n_labelAddress n_labelFrom n_labelSize n_made n_memory n_mode n_output n_outs n_pc n_ranOut n_register n_size n_steps n_tape n_timer n_typed n_waits n_wants H.size ztaped zat zend zline zlabels zfault zfaultLine zisTold zaddress zmissing zgood zvalue zvalueFrom zvalueSize zme ztape 0 zat_36 zgood_36 zvalue_36 zvalueFrom_36 zvalueSize_36 q_36
      have hr := jrunV (p := p) (e := e) (below := below) (R := ({ frames := 3, cells := 0, slots := 0, locals := 64 })) (cells := 0) (slots := 0) (As := [.int 0]) (rest := []) J hJ hA hZ hP hD hS hq [0, 1] rfl (by decide) gl_MD_226 gi_MD_value gsel_MD_value gini_MD gc_MD_value hd_MD_value ⟨rfl, rfl, Nat.le_of_ble_eq_true rfl, Nat.le_of_ble_eq_true rfl⟩ rfl rfl hl.1 rfl rfl (Nat.le_of_ble_eq_true rfl) d_MD_oneLine_304 ⟨Nat.zero_le _, Nat.zero_le _⟩
      clear hq
      refine jk_v hr hA hP hD hS [0, 1] [2, 3, 4, 5, 6] (WR := [(n_wants, .inl (E.2.1 0, 25, .inl zwants)), (n_labelFrom, .inl (E.2.1 0, 100, .inl zlabelFrom)), (n_labelSize, .inl (E.2.1 0, 100, .inl zlabelSize)), (n_labelAddress, .inl (E.2.1 0, 100, .inl zlabelAddress)), (n_made, .inl (E.2.1 0, 1024, .inl zmade))]) rfl rfl (by decide) (by decide) [5, 6, 0, 1, 2, 3, 4] (WF := [(n0, .inr (6, [.ref n_tape, .int ztaped, .ref n_isThere, .ref n_size, .ref n_depth, .ref n_memory, .ref n_register, .ref n_mode, .ref n_pc, .ref n_base, .ref n_bound, .ref n_timer, .ref n_ranOut, .ref n_halted, .ref n_steps, .ref n_outs, .ref n_output, .ref n_waits, .ref n_typed, .ref n_disk, .ref n_wants, .int zat_36, .int zend, .int zline, .ref n_labelFrom, .ref n_labelSize, .ref n_labelAddress, .int zlabels, .int zfault, .int zfaultLine, .int zisTold, .int zaddress, .ref n_made, .int zmissing, .int zgood_36, .int zvalue_36, .int zvalueFrom_36, .int zvalueSize_36, .int zme])), (n_tape, .inl (E.2.1 2, 3000, .inl ztape)), (n_wants, .inl (E.2.1 0, 25, .inl zwants)), (n_labelFrom, .inl (E.2.1 0, 100, .inl zlabelFrom)), (n_labelSize, .inl (E.2.1 0, 100, .inl zlabelSize)), (n_labelAddress, .inl (E.2.1 0, 100, .inl zlabelAddress)), (n_made, .inl (E.2.1 0, 1024, .inl zmade))]) rfl (by decide) ?_
      clear hP hD hS
      intro H locs hP hD hS
      clear hr
      exact kb_MD_oneLine_307 J hJ hA hZ _ _ _ _ _ _ _ _ _ _ _ _ _ _ _ _ _ _ _ _ _ _ _ _ _ _ _ _ _ _ _ _ h hP hD hS (lv_sub hl [0, 1, 2, 3, 4, 5, 6, 7, 8] rfl)
    · replace h := g_f c_35 h
      refine lv_iconst (v := 1) J.1 J.2.1 d_MD_oneLine_299 (by decide) ?_
      refine lv_goto (tgt := 304) J.1 J.2.1 d_MD_oneLine_300 (by decide) ?_
      replace h := g_bd h
      obtain ⟨⟨zat_37, zgood_37, zvalue_37, zvalueFrom_37, zvalueSize_37⟩, q_37, h⟩ := h
      try dsimp only at h
      have hq := ct_MD_value l E n0 n_base n_bound n_depth n_disk n_halted n_isThere n_labelAddress n_labelFrom n_labelSize n_made n_memory n_mode n_output n_outs n_pc n_ranOut n_register n_size n_steps n_tape n_timer n_typed n_waits n_wants H.size ztaped zat zend zline zlabels zfault zfaultLine zisTold zaddress zmissing zgood zvalue zvalueFrom zvalueSize zme ztape 1 zat_37 zgood_37 zvalue_37 zvalueFrom_37 zvalueSize_37 q_37
      have hr := jrunV (p := p) (e := e) (below := below) (R := ({ frames := 3, cells := 0, slots := 0, locals := 64 })) (cells := 0) (slots := 0) (As := [.int 1]) (rest := []) J hJ hA hZ hP hD hS hq [0, 1] rfl (by decide) gl_MD_226 gi_MD_value gsel_MD_value gini_MD gc_MD_value hd_MD_value ⟨rfl, rfl, Nat.le_of_ble_eq_true rfl, Nat.le_of_ble_eq_true rfl⟩ rfl rfl hl.1 rfl rfl (Nat.le_of_ble_eq_true rfl) d_MD_oneLine_304 ⟨Nat.zero_le _, Nat.zero_le _⟩
      clear hq
      refine jk_v hr hA hP hD hS [0, 1] [2, 3, 4, 5, 6] (WR := [(n_wants, .inl (E.2.1 0, 25, .inl zwants)), (n_labelFrom, .inl (E.2.1 0, 100, .inl zlabelFrom)), (n_labelSize, .inl (E.2.1 0, 100, .inl zlabelSize)), (n_labelAddress, .inl (E.2.1 0, 100, .inl zlabelAddress)), (n_made, .inl (E.2.1 0, 1024, .inl zmade))]) rfl rfl (by decide) (by decide) [5, 6, 0, 1, 2, 3, 4] (WF := [(n0, .inr (6, [.ref n_tape, .int ztaped, .ref n_isThere, .ref n_size, .ref n_depth, .ref n_memory, .ref n_register, .ref n_mode, .ref n_pc, .ref n_base, .ref n_bound, .ref n_timer, .ref n_ranOut, .ref n_halted, .ref n_steps, .ref n_outs, .ref n_output, .ref n_waits, .ref n_typed, .ref n_disk, .ref n_wants, .int zat_37, .int zend, .int zline, .ref n_labelFrom, .ref n_labelSize, .ref n_labelAddress, .int zlabels, .int zfault, .int zfaultLine, .int zisTold, .int zaddress, .ref n_made, .int zmissing, .int zgood_37, .int zvalue_37, .int zvalueFrom_37, .int zvalueSize_37, .int zme])), (n_tape, .inl (E.2.1 2, 3000, .inl ztape)), (n_wants, .inl (E.2.1 0, 25, .inl zwants)), (n_labelFrom, .inl (E.2.1 0, 100, .inl zlabelFrom)), (n_labelSize, .inl (E.2.1 0, 100, .inl zlabelSize)), (n_labelAddress, .inl (E.2.1 0, 100, .inl zlabelAddress)), (n_made, .inl (E.2.1 0, 1024, .inl zmade))]) rfl (by decide) ?_
      clear hP hD hS
      intro H locs hP hD hS
      clear hr
      exact kb_MD_oneLine_307 J hJ hA hZ _ _ _ _ _ _ _ _ _ _ _ _ _ _ _ _ _ _ _ _ _ _ _ _ _ _ _ _ _ _ _ _ h hP hD hS (lv_sub hl [0, 1, 2, 3, 4, 5, 6, 7, 8] rfl)
set_option maxHeartbeats 4000000 in
set_option maxRecDepth 100000 in
theorem kb_MD_oneLine_263 {p : Program} {l : Launch} {e : Env} {s : State} {m : MethodId} {below : List Frame} {meth : Method} {c : Code} {A : Nat → Prop} {E : jz_E} {n0 n_base n_bound n_depth n_disk n_halted n_isThere n_labelAddress n_labelFrom n_labelSize n_made n_memory n_mode n_output n_outs n_pc n_ranOut n_register n_size n_steps n_tape n_timer n_typed n_waits n_wants : Nat} {p1 : Int32} {p2 : Int32} {o_r : Int32} {o_zat : Int32} {o_zlabels : Int32} {o_zaddress : Int32} {o_zmissing : Int32} {o_zgood : Int32} {o_zvalue : Int32} {o_zvalueFrom : Int32} {o_zvalueSize : Int32} {o_zlabelFrom : Nat → Int32} {o_zlabelSize : Nat → Int32} {o_zlabelAddress : Nat → Int32} {o_zmade : Nat → Int32} (J : JC p s m ([.ref n0, .int p1, .int p2] : List Value).toArray meth c c_MD_oneLine 11 (some .int) y_MD_oneLine.cls) (hJ : jE E s) (hA : ∀ q : Nat, s.heap.size ≤ q → A q) (hZ : jz_ok E A s s.heap) : ∀ (ztaped : Int32) (zat : Int32) (zend : Int32) (zline : Int32) (zlabels : Int32) (zfault : Int32) (zfaultLine : Int32) (zisTold : Int32) (zaddress : Int32) (zmissing : Int32) (zgood : Int32) (zvalue : Int32) (zvalueFrom : Int32) (zvalueSize : Int32) (zme : Int32) (ztape : Nat → Int32) (zwants : Nat → Int32) (zlabelFrom : Nat → Int32) (zlabelSize : Nat → Int32) (zlabelAddress : Nat → Int32) (zmade : Nat → Int32) (x1 : Int32) (x2 : Int32) (x4 : Int32) (x5 : Int32) (x6 : Int32) (x7 : Int32) (x8 : Int32) (x9 : Int32) (H : Heap) (locs : List Loc) (ls : Array Slot), b_MD_oneLine_263 zat zend zline zlabels zaddress zmissing zgood zvalue zvalueFrom zvalueSize ztape zwants zlabelFrom zlabelSize zlabelAddress zmade x1 x2 x4 x5 x6 x7 x8 x9 = some (o_r, o_zat, o_zlabels, o_zaddress, o_zmissing, o_zgood, o_zvalue, o_zvalueFrom, o_zvalueSize, o_zlabelFrom, o_zlabelSize, o_zlabelAddress, o_zmade) → va_P E.1 classes [(n0, .inr (6, [.ref n_tape, .int ztaped, .ref n_isThere, .ref n_size, .ref n_depth, .ref n_memory, .ref n_register, .ref n_mode, .ref n_pc, .ref n_base, .ref n_bound, .ref n_timer, .ref n_ranOut, .ref n_halted, .ref n_steps, .ref n_outs, .ref n_output, .ref n_waits, .ref n_typed, .ref n_disk, .ref n_wants, .int zat, .int zend, .int zline, .ref n_labelFrom, .ref n_labelSize, .ref n_labelAddress, .int zlabels, .int zfault, .int zfaultLine, .int zisTold, .int zaddress, .ref n_made, .int zmissing, .int zgood, .int zvalue, .int zvalueFrom, .int zvalueSize, .int zme])), (n_tape, .inl (E.2.1 2, 3000, .inl ztape)), (n_wants, .inl (E.2.1 0, 25, .inl zwants)), (n_labelFrom, .inl (E.2.1 0, 100, .inl zlabelFrom)), (n_labelSize, .inl (E.2.1 0, 100, .inl zlabelSize)), (n_labelAddress, .inl (E.2.1 0, 100, .inl zlabelAddress)), (n_made, .inl (E.2.1 0, 1024, .inl zmade))] H → va_D A [(n0, .inr (6, [.ref n_tape, .int ztaped, .ref n_isThere, .ref n_size, .ref n_depth, .ref n_memory, .ref n_register, .ref n_mode, .ref n_pc, .ref n_base, .ref n_bound, .ref n_timer, .ref n_ranOut, .ref n_halted, .ref n_steps, .ref n_outs, .ref n_output, .ref n_waits, .ref n_typed, .ref n_disk, .ref n_wants, .int zat, .int zend, .int zline, .ref n_labelFrom, .ref n_labelSize, .ref n_labelAddress, .int zlabels, .int zfault, .int zfaultLine, .int zisTold, .int zaddress, .ref n_made, .int zmissing, .int zgood, .int zvalue, .int zvalueFrom, .int zvalueSize, .int zme])), (n_tape, .inl (E.2.1 2, 3000, .inl ztape)), (n_wants, .inl (E.2.1 0, 25, .inl zwants)), (n_labelFrom, .inl (E.2.1 0, 100, .inl zlabelFrom)), (n_labelSize, .inl (E.2.1 0, 100, .inl zlabelSize)), (n_labelAddress, .inl (E.2.1 0, 100, .inl zlabelAddress)), (n_made, .inl (E.2.1 0, 1024, .inl zmade))] → va_S A s.heap H locs → lv_has ls 11 [(0, .ref n0), (1, .int x1), (2, .int x2), (4, .int x4), (5, .int x5), (6, .int x6), (7, .int x7), (8, .int x8), (9, .int x9)] → W p l e ({ frames := 3, cells := 0, slots := 0, locals := 64 }) s m ([.ref n0, .int p1, .int p2] : List Value).toArray below meth c H locs 0 0 (MQ below (va_Qi (fun (r' : Int32) (u : va_W) => r' = o_r ∧ u = [(n0, .inr (6, [.ref n_tape, .int ztaped, .ref n_isThere, .ref n_size, .ref n_depth, .ref n_memory, .ref n_register, .ref n_mode, .ref n_pc, .ref n_base, .ref n_bound, .ref n_timer, .ref n_ranOut, .ref n_halted, .ref n_steps, .ref n_outs, .ref n_output, .ref n_waits, .ref n_typed, .ref n_disk, .ref n_wants, .int o_zat, .int zend, .int zline, .ref n_labelFrom, .ref n_labelSize, .ref n_labelAddress, .int o_zlabels, .int zfault, .int zfaultLine, .int zisTold, .int o_zaddress, .ref n_made, .int o_zmissing, .int o_zgood, .int o_zvalue, .int o_zvalueFrom, .int o_zvalueSize, .int zme])), (n_tape, .inl (E.2.1 2, 3000, .inl ztape)), (n_wants, .inl (E.2.1 0, 25, .inl zwants)), (n_labelFrom, .inl (E.2.1 0, 100, .inl o_zlabelFrom)), (n_labelSize, .inl (E.2.1 0, 100, .inl o_zlabelSize)), (n_labelAddress, .inl (E.2.1 0, 100, .inl o_zlabelAddress)), (n_made, .inl (E.2.1 0, 1024, .inl o_zmade))]) (BW E A) A) ([.ref n0, .int p1, .int p2] : List Value).toArray s 0 0 A) (F0 m 263 ls []) := by
  intro ztaped zat zend zline zlabels zfault zfaultLine zisTold zaddress zmissing zgood zvalue zvalueFrom zvalueSize zme ztape zwants zlabelFrom zlabelSize zlabelAddress zmade x1 x2 x4 x5 x6 x7 x8 x9 H locs ls h hP hD hS hl
  rw [b_MD_oneLine_263] at h
  refine lv_aload_n J.1 J.2.1 d_MD_oneLine_263 rfl (lv_at hl 0 rfl) ?_
  refine jg J hJ hP 0 rfl rfl i_MD 20 (by decide) gf_MD_77 rfl d_MD_oneLine_264 ?_
  refine lv_iload J.1 J.2.1 d_MD_oneLine_267 (lv_at hl 6 rfl) ?_
  replace h := g_ck h
  obtain ⟨k_38, h⟩ := h
  refine jai J hJ hP 2 rfl k_38 d_MD_oneLine_269 ?_
  refine lv_iconst (v := 4) J.1 J.2.1 d_MD_oneLine_270 (by decide) ?_
  refine lv_iand J.1 J.2.1 d_MD_oneLine_271 ?_
  refine lv_iconst (v := 4) J.1 J.2.1 d_MD_oneLine_272 (by decide) ?_
  refine lv_icmp_ne (tgt := 307) J.1 J.2.1 d_MD_oneLine_273 (by decide) (fun c_39 => ?_) (fun c_39 => ?_)
  · replace h := g_f c_39 h
    exact kb_MD_oneLine_307 J hJ hA hZ _ _ _ _ _ _ _ _ _ _ _ _ _ _ _ _ _ _ _ _ _ _ _ _ _ _ _ _ _ _ _ _ h hP hD hS (lv_sub hl [0, 1, 2, 3, 4, 5, 6, 7, 8] rfl)
  · replace h := g_t c_39 h
    refine lv_aload_n J.1 J.2.1 d_MD_oneLine_276 rfl (lv_at hl 0 rfl) ?_
    refine lv_iconst (v := 0) J.1 J.2.1 d_MD_oneLine_277 (by decide) ?_
    replace h := g_bd h
    obtain ⟨⟨zat_40, zgood_40, zvalue_40, zvalueFrom_40, zvalueSize_40⟩, q_40, h⟩ := h
    try dsimp only at h
    have hq := ct_MD_value l E n0 n_base n_bound n_depth n_disk n_halted n_isThere n_labelAddress n_labelFrom n_labelSize n_made n_memory n_mode n_output n_outs n_pc n_ranOut n_register n_size n_steps n_tape n_timer n_typed n_waits n_wants H.size ztaped zat zend zline zlabels zfault zfaultLine zisTold zaddress zmissing zgood zvalue zvalueFrom zvalueSize zme ztape 0 zat_40 zgood_40 zvalue_40 zvalueFrom_40 zvalueSize_40 q_40
    have hr := jrunV (p := p) (e := e) (below := below) (R := ({ frames := 3, cells := 0, slots := 0, locals := 64 })) (cells := 0) (slots := 0) (As := [.int 0]) (rest := []) J hJ hA hZ hP hD hS hq [0, 1] rfl (by decide) gl_MD_226 gi_MD_value gsel_MD_value gini_MD gc_MD_value hd_MD_value ⟨rfl, rfl, Nat.le_of_ble_eq_true rfl, Nat.le_of_ble_eq_true rfl⟩ rfl rfl hl.1 rfl rfl (Nat.le_of_ble_eq_true rfl) d_MD_oneLine_278 ⟨Nat.zero_le _, Nat.zero_le _⟩
    clear hq
    refine jk_v hr hA hP hD hS [0, 1] [2, 3, 4, 5, 6] (WR := [(n_wants, .inl (E.2.1 0, 25, .inl zwants)), (n_labelFrom, .inl (E.2.1 0, 100, .inl zlabelFrom)), (n_labelSize, .inl (E.2.1 0, 100, .inl zlabelSize)), (n_labelAddress, .inl (E.2.1 0, 100, .inl zlabelAddress)), (n_made, .inl (E.2.1 0, 1024, .inl zmade))]) rfl rfl (by decide) (by decide) [5, 6, 0, 1, 2, 3, 4] (WF := [(n0, .inr (6, [.ref n_tape, .int ztaped, .ref n_isThere, .ref n_size, .ref n_depth, .ref n_memory, .ref n_register, .ref n_mode, .ref n_pc, .ref n_base, .ref n_bound, .ref n_timer, .ref n_ranOut, .ref n_halted, .ref n_steps, .ref n_outs, .ref n_output, .ref n_waits, .ref n_typed, .ref n_disk, .ref n_wants, .int zat_40, .int zend, .int zline, .ref n_labelFrom, .ref n_labelSize, .ref n_labelAddress, .int zlabels, .int zfault, .int zfaultLine, .int zisTold, .int zaddress, .ref n_made, .int zmissing, .int zgood_40, .int zvalue_40, .int zvalueFrom_40, .int zvalueSize_40, .int zme])), (n_tape, .inl (E.2.1 2, 3000, .inl ztape)), (n_wants, .inl (E.2.1 0, 25, .inl zwants)), (n_labelFrom, .inl (E.2.1 0, 100, .inl zlabelFrom)), (n_labelSize, .inl (E.2.1 0, 100, .inl zlabelSize)), (n_labelAddress, .inl (E.2.1 0, 100, .inl zlabelAddress)), (n_made, .inl (E.2.1 0, 1024, .inl zmade))]) rfl (by decide) ?_
    clear hP hD hS
    intro H locs hP hD hS
    clear hr
    refine lv_goto (tgt := 307) J.1 J.2.1 d_MD_oneLine_281 (by decide) ?_
    exact kb_MD_oneLine_307 J hJ hA hZ _ _ _ _ _ _ _ _ _ _ _ _ _ _ _ _ _ _ _ _ _ _ _ _ _ _ _ _ _ _ _ _ h hP hD hS (lv_sub hl [0, 1, 2, 3, 4, 5, 6, 7, 8] rfl)
set_option maxHeartbeats 4000000 in
set_option maxRecDepth 100000 in
theorem kb_MD_oneLine_244 {p : Program} {l : Launch} {e : Env} {s : State} {m : MethodId} {below : List Frame} {meth : Method} {c : Code} {A : Nat → Prop} {E : jz_E} {n0 n_base n_bound n_depth n_disk n_halted n_isThere n_labelAddress n_labelFrom n_labelSize n_made n_memory n_mode n_output n_outs n_pc n_ranOut n_register n_size n_steps n_tape n_timer n_typed n_waits n_wants : Nat} {p1 : Int32} {p2 : Int32} {o_r : Int32} {o_zat : Int32} {o_zlabels : Int32} {o_zaddress : Int32} {o_zmissing : Int32} {o_zgood : Int32} {o_zvalue : Int32} {o_zvalueFrom : Int32} {o_zvalueSize : Int32} {o_zlabelFrom : Nat → Int32} {o_zlabelSize : Nat → Int32} {o_zlabelAddress : Nat → Int32} {o_zmade : Nat → Int32} (J : JC p s m ([.ref n0, .int p1, .int p2] : List Value).toArray meth c c_MD_oneLine 11 (some .int) y_MD_oneLine.cls) (hJ : jE E s) (hA : ∀ q : Nat, s.heap.size ≤ q → A q) (hZ : jz_ok E A s s.heap) : ∀ (ztaped : Int32) (zat : Int32) (zend : Int32) (zline : Int32) (zlabels : Int32) (zfault : Int32) (zfaultLine : Int32) (zisTold : Int32) (zaddress : Int32) (zmissing : Int32) (zgood : Int32) (zvalue : Int32) (zvalueFrom : Int32) (zvalueSize : Int32) (zme : Int32) (ztape : Nat → Int32) (zwants : Nat → Int32) (zlabelFrom : Nat → Int32) (zlabelSize : Nat → Int32) (zlabelAddress : Nat → Int32) (zmade : Nat → Int32) (x1 : Int32) (x2 : Int32) (x4 : Int32) (x5 : Int32) (x6 : Int32) (x7 : Int32) (x8 : Int32) (x9 : Int32) (H : Heap) (locs : List Loc) (ls : Array Slot), b_MD_oneLine_244 zat zend zline zlabels zaddress zmissing zgood zvalue zvalueFrom zvalueSize ztape zwants zlabelFrom zlabelSize zlabelAddress zmade x1 x2 x4 x5 x6 x7 x8 x9 = some (o_r, o_zat, o_zlabels, o_zaddress, o_zmissing, o_zgood, o_zvalue, o_zvalueFrom, o_zvalueSize, o_zlabelFrom, o_zlabelSize, o_zlabelAddress, o_zmade) → va_P E.1 classes [(n0, .inr (6, [.ref n_tape, .int ztaped, .ref n_isThere, .ref n_size, .ref n_depth, .ref n_memory, .ref n_register, .ref n_mode, .ref n_pc, .ref n_base, .ref n_bound, .ref n_timer, .ref n_ranOut, .ref n_halted, .ref n_steps, .ref n_outs, .ref n_output, .ref n_waits, .ref n_typed, .ref n_disk, .ref n_wants, .int zat, .int zend, .int zline, .ref n_labelFrom, .ref n_labelSize, .ref n_labelAddress, .int zlabels, .int zfault, .int zfaultLine, .int zisTold, .int zaddress, .ref n_made, .int zmissing, .int zgood, .int zvalue, .int zvalueFrom, .int zvalueSize, .int zme])), (n_tape, .inl (E.2.1 2, 3000, .inl ztape)), (n_wants, .inl (E.2.1 0, 25, .inl zwants)), (n_labelFrom, .inl (E.2.1 0, 100, .inl zlabelFrom)), (n_labelSize, .inl (E.2.1 0, 100, .inl zlabelSize)), (n_labelAddress, .inl (E.2.1 0, 100, .inl zlabelAddress)), (n_made, .inl (E.2.1 0, 1024, .inl zmade))] H → va_D A [(n0, .inr (6, [.ref n_tape, .int ztaped, .ref n_isThere, .ref n_size, .ref n_depth, .ref n_memory, .ref n_register, .ref n_mode, .ref n_pc, .ref n_base, .ref n_bound, .ref n_timer, .ref n_ranOut, .ref n_halted, .ref n_steps, .ref n_outs, .ref n_output, .ref n_waits, .ref n_typed, .ref n_disk, .ref n_wants, .int zat, .int zend, .int zline, .ref n_labelFrom, .ref n_labelSize, .ref n_labelAddress, .int zlabels, .int zfault, .int zfaultLine, .int zisTold, .int zaddress, .ref n_made, .int zmissing, .int zgood, .int zvalue, .int zvalueFrom, .int zvalueSize, .int zme])), (n_tape, .inl (E.2.1 2, 3000, .inl ztape)), (n_wants, .inl (E.2.1 0, 25, .inl zwants)), (n_labelFrom, .inl (E.2.1 0, 100, .inl zlabelFrom)), (n_labelSize, .inl (E.2.1 0, 100, .inl zlabelSize)), (n_labelAddress, .inl (E.2.1 0, 100, .inl zlabelAddress)), (n_made, .inl (E.2.1 0, 1024, .inl zmade))] → va_S A s.heap H locs → lv_has ls 11 [(0, .ref n0), (1, .int x1), (2, .int x2), (4, .int x4), (5, .int x5), (6, .int x6), (7, .int x7), (8, .int x8), (9, .int x9)] → W p l e ({ frames := 3, cells := 0, slots := 0, locals := 64 }) s m ([.ref n0, .int p1, .int p2] : List Value).toArray below meth c H locs 0 0 (MQ below (va_Qi (fun (r' : Int32) (u : va_W) => r' = o_r ∧ u = [(n0, .inr (6, [.ref n_tape, .int ztaped, .ref n_isThere, .ref n_size, .ref n_depth, .ref n_memory, .ref n_register, .ref n_mode, .ref n_pc, .ref n_base, .ref n_bound, .ref n_timer, .ref n_ranOut, .ref n_halted, .ref n_steps, .ref n_outs, .ref n_output, .ref n_waits, .ref n_typed, .ref n_disk, .ref n_wants, .int o_zat, .int zend, .int zline, .ref n_labelFrom, .ref n_labelSize, .ref n_labelAddress, .int o_zlabels, .int zfault, .int zfaultLine, .int zisTold, .int o_zaddress, .ref n_made, .int o_zmissing, .int o_zgood, .int o_zvalue, .int o_zvalueFrom, .int o_zvalueSize, .int zme])), (n_tape, .inl (E.2.1 2, 3000, .inl ztape)), (n_wants, .inl (E.2.1 0, 25, .inl zwants)), (n_labelFrom, .inl (E.2.1 0, 100, .inl o_zlabelFrom)), (n_labelSize, .inl (E.2.1 0, 100, .inl o_zlabelSize)), (n_labelAddress, .inl (E.2.1 0, 100, .inl o_zlabelAddress)), (n_made, .inl (E.2.1 0, 1024, .inl o_zmade))]) (BW E A) A) ([.ref n0, .int p1, .int p2] : List Value).toArray s 0 0 A) (F0 m 244 ls []) := by
  intro ztaped zat zend zline zlabels zfault zfaultLine zisTold zaddress zmissing zgood zvalue zvalueFrom zvalueSize zme ztape zwants zlabelFrom zlabelSize zlabelAddress zmade x1 x2 x4 x5 x6 x7 x8 x9 H locs ls h hP hD hS hl
  rw [b_MD_oneLine_244] at h
  refine lv_aload_n J.1 J.2.1 d_MD_oneLine_244 rfl (lv_at hl 0 rfl) ?_
  refine jg J hJ hP 0 rfl rfl i_MD 20 (by decide) gf_MD_77 rfl d_MD_oneLine_245 ?_
  refine lv_iload J.1 J.2.1 d_MD_oneLine_248 (lv_at hl 6 rfl) ?_
  replace h := g_ck h
  obtain ⟨k_41, h⟩ := h
  refine jai J hJ hP 2 rfl k_41 d_MD_oneLine_250 ?_
  refine lv_iconst (v := 2) J.1 J.2.1 d_MD_oneLine_251 (by decide) ?_
  refine lv_iand J.1 J.2.1 d_MD_oneLine_252 ?_
  refine lv_iconst (v := 2) J.1 J.2.1 d_MD_oneLine_253 (by decide) ?_
  refine lv_icmp_ne (tgt := 263) J.1 J.2.1 d_MD_oneLine_254 (by decide) (fun c_42 => ?_) (fun c_42 => ?_)
  · replace h := g_f c_42 h
    exact kb_MD_oneLine_263 J hJ hA hZ _ _ _ _ _ _ _ _ _ _ _ _ _ _ _ _ _ _ _ _ _ _ _ _ _ _ _ _ _ _ _ _ h hP hD hS (lv_sub hl [0, 1, 2, 3, 4, 5, 6, 7, 8] rfl)
  · replace h := g_t c_42 h
    refine lv_aload_n J.1 J.2.1 d_MD_oneLine_257 rfl (lv_at hl 0 rfl) ?_
    replace h := g_bd h
    obtain ⟨⟨r_43, zat_43, zgood_43⟩, q_43, h⟩ := h
    try dsimp only at h
    have hq := ct_MD_register l E n0 n_base n_bound n_depth n_disk n_halted n_isThere n_labelAddress n_labelFrom n_labelSize n_made n_memory n_mode n_output n_outs n_pc n_ranOut n_register n_size n_steps n_tape n_timer n_typed n_waits n_wants H.size ztaped zat zend zline zlabels zfault zfaultLine zisTold zaddress zmissing zgood zvalue zvalueFrom zvalueSize zme ztape r_43 zat_43 zgood_43 q_43
    have hr := jrunV (p := p) (e := e) (below := below) (R := ({ frames := 3, cells := 0, slots := 0, locals := 64 })) (cells := 0) (slots := 0) (As := []) (rest := []) J hJ hA hZ hP hD hS hq [0, 1] rfl (by decide) gl_MD_224 gi_MD_register gsel_MD_register gini_MD gc_MD_register hd_MD_register ⟨rfl, rfl, Nat.le_of_ble_eq_true rfl, Nat.le_of_ble_eq_true rfl⟩ rfl rfl hl.1 rfl rfl (Nat.le_of_ble_eq_true rfl) d_MD_oneLine_258 ⟨Nat.zero_le _, Nat.zero_le _⟩
    clear hq
    refine jk_i hr hA hP hD hS [0, 1] [2, 3, 4, 5, 6] (WR := [(n_wants, .inl (E.2.1 0, 25, .inl zwants)), (n_labelFrom, .inl (E.2.1 0, 100, .inl zlabelFrom)), (n_labelSize, .inl (E.2.1 0, 100, .inl zlabelSize)), (n_labelAddress, .inl (E.2.1 0, 100, .inl zlabelAddress)), (n_made, .inl (E.2.1 0, 1024, .inl zmade))]) rfl rfl (by decide) (by decide) [5, 6, 0, 1, 2, 3, 4] (WF := [(n0, .inr (6, [.ref n_tape, .int ztaped, .ref n_isThere, .ref n_size, .ref n_depth, .ref n_memory, .ref n_register, .ref n_mode, .ref n_pc, .ref n_base, .ref n_bound, .ref n_timer, .ref n_ranOut, .ref n_halted, .ref n_steps, .ref n_outs, .ref n_output, .ref n_waits, .ref n_typed, .ref n_disk, .ref n_wants, .int zat_43, .int zend, .int zline, .ref n_labelFrom, .ref n_labelSize, .ref n_labelAddress, .int zlabels, .int zfault, .int zfaultLine, .int zisTold, .int zaddress, .ref n_made, .int zmissing, .int zgood_43, .int zvalue, .int zvalueFrom, .int zvalueSize, .int zme])), (n_tape, .inl (E.2.1 2, 3000, .inl ztape)), (n_wants, .inl (E.2.1 0, 25, .inl zwants)), (n_labelFrom, .inl (E.2.1 0, 100, .inl zlabelFrom)), (n_labelSize, .inl (E.2.1 0, 100, .inl zlabelSize)), (n_labelAddress, .inl (E.2.1 0, 100, .inl zlabelAddress)), (n_made, .inl (E.2.1 0, 1024, .inl zmade))]) rfl (by decide) ?_
    clear hP hD hS
    intro H locs hP hD hS
    clear hr
    refine lv_istore (lv' := [(9, .int r_43), (0, .ref n0), (1, .int x1), (2, .int x2), (4, .int x4), (5, .int x5), (6, .int x6), (7, .int x7), (8, .int x8)]) J.1 J.2.1 d_MD_oneLine_261 hl (by decide) rfl ?_
    clear hl
    intro ls hl
    exact kb_MD_oneLine_263 J hJ hA hZ _ _ _ _ _ _ _ _ _ _ _ _ _ _ _ _ _ _ _ _ _ _ _ _ _ _ _ _ _ _ _ _ h hP hD hS (lv_sub hl [1, 2, 3, 4, 5, 6, 7, 8, 0] rfl)
set_option maxHeartbeats 4000000 in
set_option maxRecDepth 100000 in
theorem kb_MD_oneLine_211 {p : Program} {l : Launch} {e : Env} {s : State} {m : MethodId} {below : List Frame} {meth : Method} {c : Code} {A : Nat → Prop} {E : jz_E} {n0 n_base n_bound n_depth n_disk n_halted n_isThere n_labelAddress n_labelFrom n_labelSize n_made n_memory n_mode n_output n_outs n_pc n_ranOut n_register n_size n_steps n_tape n_timer n_typed n_waits n_wants : Nat} {p1 : Int32} {p2 : Int32} {o_r : Int32} {o_zat : Int32} {o_zlabels : Int32} {o_zaddress : Int32} {o_zmissing : Int32} {o_zgood : Int32} {o_zvalue : Int32} {o_zvalueFrom : Int32} {o_zvalueSize : Int32} {o_zlabelFrom : Nat → Int32} {o_zlabelSize : Nat → Int32} {o_zlabelAddress : Nat → Int32} {o_zmade : Nat → Int32} (J : JC p s m ([.ref n0, .int p1, .int p2] : List Value).toArray meth c c_MD_oneLine 11 (some .int) y_MD_oneLine.cls) (hJ : jE E s) (hA : ∀ q : Nat, s.heap.size ≤ q → A q) (hZ : jz_ok E A s s.heap) : ∀ (ztaped : Int32) (zat : Int32) (zend : Int32) (zline : Int32) (zlabels : Int32) (zfault : Int32) (zfaultLine : Int32) (zisTold : Int32) (zaddress : Int32) (zmissing : Int32) (zgood : Int32) (zvalue : Int32) (zvalueFrom : Int32) (zvalueSize : Int32) (zme : Int32) (ztape : Nat → Int32) (zwants : Nat → Int32) (zlabelFrom : Nat → Int32) (zlabelSize : Nat → Int32) (zlabelAddress : Nat → Int32) (zmade : Nat → Int32) (x1 : Int32) (x2 : Int32) (x4 : Int32) (x5 : Int32) (x6 : Int32) (x7 : Int32) (x8 : Int32) (x9 : Int32) (H : Heap) (locs : List Loc) (ls : Array Slot), b_MD_oneLine_211 zat zend zline zlabels zaddress zmissing zgood zvalue zvalueFrom zvalueSize ztape zwants zlabelFrom zlabelSize zlabelAddress zmade x1 x2 x4 x5 x6 x7 x8 x9 = some (o_r, o_zat, o_zlabels, o_zaddress, o_zmissing, o_zgood, o_zvalue, o_zvalueFrom, o_zvalueSize, o_zlabelFrom, o_zlabelSize, o_zlabelAddress, o_zmade) → va_P E.1 classes [(n0, .inr (6, [.ref n_tape, .int ztaped, .ref n_isThere, .ref n_size, .ref n_depth, .ref n_memory, .ref n_register, .ref n_mode, .ref n_pc, .ref n_base, .ref n_bound, .ref n_timer, .ref n_ranOut, .ref n_halted, .ref n_steps, .ref n_outs, .ref n_output, .ref n_waits, .ref n_typed, .ref n_disk, .ref n_wants, .int zat, .int zend, .int zline, .ref n_labelFrom, .ref n_labelSize, .ref n_labelAddress, .int zlabels, .int zfault, .int zfaultLine, .int zisTold, .int zaddress, .ref n_made, .int zmissing, .int zgood, .int zvalue, .int zvalueFrom, .int zvalueSize, .int zme])), (n_tape, .inl (E.2.1 2, 3000, .inl ztape)), (n_wants, .inl (E.2.1 0, 25, .inl zwants)), (n_labelFrom, .inl (E.2.1 0, 100, .inl zlabelFrom)), (n_labelSize, .inl (E.2.1 0, 100, .inl zlabelSize)), (n_labelAddress, .inl (E.2.1 0, 100, .inl zlabelAddress)), (n_made, .inl (E.2.1 0, 1024, .inl zmade))] H → va_D A [(n0, .inr (6, [.ref n_tape, .int ztaped, .ref n_isThere, .ref n_size, .ref n_depth, .ref n_memory, .ref n_register, .ref n_mode, .ref n_pc, .ref n_base, .ref n_bound, .ref n_timer, .ref n_ranOut, .ref n_halted, .ref n_steps, .ref n_outs, .ref n_output, .ref n_waits, .ref n_typed, .ref n_disk, .ref n_wants, .int zat, .int zend, .int zline, .ref n_labelFrom, .ref n_labelSize, .ref n_labelAddress, .int zlabels, .int zfault, .int zfaultLine, .int zisTold, .int zaddress, .ref n_made, .int zmissing, .int zgood, .int zvalue, .int zvalueFrom, .int zvalueSize, .int zme])), (n_tape, .inl (E.2.1 2, 3000, .inl ztape)), (n_wants, .inl (E.2.1 0, 25, .inl zwants)), (n_labelFrom, .inl (E.2.1 0, 100, .inl zlabelFrom)), (n_labelSize, .inl (E.2.1 0, 100, .inl zlabelSize)), (n_labelAddress, .inl (E.2.1 0, 100, .inl zlabelAddress)), (n_made, .inl (E.2.1 0, 1024, .inl zmade))] → va_S A s.heap H locs → lv_has ls 11 [(0, .ref n0), (1, .int x1), (2, .int x2), (4, .int x4), (5, .int x5), (6, .int x6), (7, .int x7), (8, .int x8), (9, .int x9)] → W p l e ({ frames := 3, cells := 0, slots := 0, locals := 64 }) s m ([.ref n0, .int p1, .int p2] : List Value).toArray below meth c H locs 0 0 (MQ below (va_Qi (fun (r' : Int32) (u : va_W) => r' = o_r ∧ u = [(n0, .inr (6, [.ref n_tape, .int ztaped, .ref n_isThere, .ref n_size, .ref n_depth, .ref n_memory, .ref n_register, .ref n_mode, .ref n_pc, .ref n_base, .ref n_bound, .ref n_timer, .ref n_ranOut, .ref n_halted, .ref n_steps, .ref n_outs, .ref n_output, .ref n_waits, .ref n_typed, .ref n_disk, .ref n_wants, .int o_zat, .int zend, .int zline, .ref n_labelFrom, .ref n_labelSize, .ref n_labelAddress, .int o_zlabels, .int zfault, .int zfaultLine, .int zisTold, .int o_zaddress, .ref n_made, .int o_zmissing, .int o_zgood, .int o_zvalue, .int o_zvalueFrom, .int o_zvalueSize, .int zme])), (n_tape, .inl (E.2.1 2, 3000, .inl ztape)), (n_wants, .inl (E.2.1 0, 25, .inl zwants)), (n_labelFrom, .inl (E.2.1 0, 100, .inl o_zlabelFrom)), (n_labelSize, .inl (E.2.1 0, 100, .inl o_zlabelSize)), (n_labelAddress, .inl (E.2.1 0, 100, .inl o_zlabelAddress)), (n_made, .inl (E.2.1 0, 1024, .inl o_zmade))]) (BW E A) A) ([.ref n0, .int p1, .int p2] : List Value).toArray s 0 0 A) (F0 m 211 ls []) := by
  intro ztaped zat zend zline zlabels zfault zfaultLine zisTold zaddress zmissing zgood zvalue zvalueFrom zvalueSize zme ztape zwants zlabelFrom zlabelSize zlabelAddress zmade x1 x2 x4 x5 x6 x7 x8 x9 H locs ls h hP hD hS hl
  rw [b_MD_oneLine_211] at h
  refine lv_aload_n J.1 J.2.1 d_MD_oneLine_211 rfl (lv_at hl 0 rfl) ?_
  refine jg J hJ hP 0 rfl rfl i_MD 34 (by decide) gf_MD_177 rfl d_MD_oneLine_212 ?_
  refine lv_if_eq (tgt := 284) J.1 J.2.1 d_MD_oneLine_215 (by decide) (fun c_44 => ?_) (fun c_44 => ?_)
  · replace h := g_t c_44 h
    exact kb_MD_oneLine_284 J hJ hA hZ _ _ _ _ _ _ _ _ _ _ _ _ _ _ _ _ _ _ _ _ _ _ _ _ _ _ _ _ _ _ _ _ h hP hD hS (lv_sub hl [0, 1, 2, 3, 4, 5, 6, 7, 8] rfl)
  · replace h := g_f c_44 h
    refine lv_iload J.1 J.2.1 d_MD_oneLine_218 (lv_at hl 6 rfl) ?_
    refine lv_bipush (v := 25) J.1 J.2.1 d_MD_oneLine_220 (by decide) ?_
    refine lv_icmp_ge (tgt := 284) J.1 J.2.1 d_MD_oneLine_222 (by decide) (fun c_45 => ?_) (fun c_45 => ?_)
    · replace h := g_t c_45 h
      exact kb_MD_oneLine_284 J hJ hA hZ _ _ _ _ _ _ _ _ _ _ _ _ _ _ _ _ _ _ _ _ _ _ _ _ _ _ _ _ _ _ _ _ h hP hD hS (lv_sub hl [0, 1, 2, 3, 4, 5, 6, 7, 8] rfl)
    · replace h := g_f c_45 h
      refine lv_aload_n J.1 J.2.1 d_MD_oneLine_225 rfl (lv_at hl 0 rfl) ?_
      refine jg J hJ hP 0 rfl rfl i_MD 20 (by decide) gf_MD_77 rfl d_MD_oneLine_226 ?_
      refine lv_iload J.1 J.2.1 d_MD_oneLine_229 (lv_at hl 6 rfl) ?_
      replace h := g_ck h
      obtain ⟨k_46, h⟩ := h
      refine jai J hJ hP 2 rfl k_46 d_MD_oneLine_231 ?_
      refine lv_iconst (v := 1) J.1 J.2.1 d_MD_oneLine_232 (by decide) ?_
      refine lv_iand J.1 J.2.1 d_MD_oneLine_233 ?_
      refine lv_iconst (v := 1) J.1 J.2.1 d_MD_oneLine_234 (by decide) ?_
      refine lv_icmp_ne (tgt := 244) J.1 J.2.1 d_MD_oneLine_235 (by decide) (fun c_47 => ?_) (fun c_47 => ?_)
      · replace h := g_f c_47 h
        exact kb_MD_oneLine_244 J hJ hA hZ _ _ _ _ _ _ _ _ _ _ _ _ _ _ _ _ _ _ _ _ _ _ _ _ _ _ _ _ _ _ _ _ h hP hD hS (lv_sub hl [0, 1, 2, 3, 4, 5, 6, 7, 8] rfl)
      · replace h := g_t c_47 h
        refine lv_aload_n J.1 J.2.1 d_MD_oneLine_238 rfl (lv_at hl 0 rfl) ?_
        replace h := g_bd h
        obtain ⟨⟨r_48, zat_48, zgood_48⟩, q_48, h⟩ := h
        try dsimp only at h
        have hq := ct_MD_register l E n0 n_base n_bound n_depth n_disk n_halted n_isThere n_labelAddress n_labelFrom n_labelSize n_made n_memory n_mode n_output n_outs n_pc n_ranOut n_register n_size n_steps n_tape n_timer n_typed n_waits n_wants H.size ztaped zat zend zline zlabels zfault zfaultLine zisTold zaddress zmissing zgood zvalue zvalueFrom zvalueSize zme ztape r_48 zat_48 zgood_48 q_48
        have hr := jrunV (p := p) (e := e) (below := below) (R := ({ frames := 3, cells := 0, slots := 0, locals := 64 })) (cells := 0) (slots := 0) (As := []) (rest := []) J hJ hA hZ hP hD hS hq [0, 1] rfl (by decide) gl_MD_224 gi_MD_register gsel_MD_register gini_MD gc_MD_register hd_MD_register ⟨rfl, rfl, Nat.le_of_ble_eq_true rfl, Nat.le_of_ble_eq_true rfl⟩ rfl rfl hl.1 rfl rfl (Nat.le_of_ble_eq_true rfl) d_MD_oneLine_239 ⟨Nat.zero_le _, Nat.zero_le _⟩
        clear hq
        refine jk_i hr hA hP hD hS [0, 1] [2, 3, 4, 5, 6] (WR := [(n_wants, .inl (E.2.1 0, 25, .inl zwants)), (n_labelFrom, .inl (E.2.1 0, 100, .inl zlabelFrom)), (n_labelSize, .inl (E.2.1 0, 100, .inl zlabelSize)), (n_labelAddress, .inl (E.2.1 0, 100, .inl zlabelAddress)), (n_made, .inl (E.2.1 0, 1024, .inl zmade))]) rfl rfl (by decide) (by decide) [5, 6, 0, 1, 2, 3, 4] (WF := [(n0, .inr (6, [.ref n_tape, .int ztaped, .ref n_isThere, .ref n_size, .ref n_depth, .ref n_memory, .ref n_register, .ref n_mode, .ref n_pc, .ref n_base, .ref n_bound, .ref n_timer, .ref n_ranOut, .ref n_halted, .ref n_steps, .ref n_outs, .ref n_output, .ref n_waits, .ref n_typed, .ref n_disk, .ref n_wants, .int zat_48, .int zend, .int zline, .ref n_labelFrom, .ref n_labelSize, .ref n_labelAddress, .int zlabels, .int zfault, .int zfaultLine, .int zisTold, .int zaddress, .ref n_made, .int zmissing, .int zgood_48, .int zvalue, .int zvalueFrom, .int zvalueSize, .int zme])), (n_tape, .inl (E.2.1 2, 3000, .inl ztape)), (n_wants, .inl (E.2.1 0, 25, .inl zwants)), (n_labelFrom, .inl (E.2.1 0, 100, .inl zlabelFrom)), (n_labelSize, .inl (E.2.1 0, 100, .inl zlabelSize)), (n_labelAddress, .inl (E.2.1 0, 100, .inl zlabelAddress)), (n_made, .inl (E.2.1 0, 1024, .inl zmade))]) rfl (by decide) ?_
        clear hP hD hS
        intro H locs hP hD hS
        clear hr
        refine lv_istore (lv' := [(8, .int r_48), (0, .ref n0), (1, .int x1), (2, .int x2), (4, .int x4), (5, .int x5), (6, .int x6), (7, .int x7), (9, .int x9)]) J.1 J.2.1 d_MD_oneLine_242 hl (by decide) rfl ?_
        clear hl
        intro ls hl
        exact kb_MD_oneLine_244 J hJ hA hZ _ _ _ _ _ _ _ _ _ _ _ _ _ _ _ _ _ _ _ _ _ _ _ _ _ _ _ _ _ _ _ _ h hP hD hS (lv_sub hl [1, 2, 3, 4, 5, 6, 7, 0, 8] rfl)
set_option maxHeartbeats 4000000 in
set_option maxRecDepth 100000 in
theorem kb_MD_oneLine_154 {p : Program} {l : Launch} {e : Env} {s : State} {m : MethodId} {below : List Frame} {meth : Method} {c : Code} {A : Nat → Prop} {E : jz_E} {n0 n_base n_bound n_depth n_disk n_halted n_isThere n_labelAddress n_labelFrom n_labelSize n_made n_memory n_mode n_output n_outs n_pc n_ranOut n_register n_size n_steps n_tape n_timer n_typed n_waits n_wants : Nat} {p1 : Int32} {p2 : Int32} {o_r : Int32} {o_zat : Int32} {o_zlabels : Int32} {o_zaddress : Int32} {o_zmissing : Int32} {o_zgood : Int32} {o_zvalue : Int32} {o_zvalueFrom : Int32} {o_zvalueSize : Int32} {o_zlabelFrom : Nat → Int32} {o_zlabelSize : Nat → Int32} {o_zlabelAddress : Nat → Int32} {o_zmade : Nat → Int32} (J : JC p s m ([.ref n0, .int p1, .int p2] : List Value).toArray meth c c_MD_oneLine 11 (some .int) y_MD_oneLine.cls) (hJ : jE E s) (hA : ∀ q : Nat, s.heap.size ≤ q → A q) (hZ : jz_ok E A s s.heap) : ∀ (ztaped : Int32) (zat : Int32) (zend : Int32) (zline : Int32) (zlabels : Int32) (zfault : Int32) (zfaultLine : Int32) (zisTold : Int32) (zaddress : Int32) (zmissing : Int32) (zgood : Int32) (zvalue : Int32) (zvalueFrom : Int32) (zvalueSize : Int32) (zme : Int32) (ztape : Nat → Int32) (zwants : Nat → Int32) (zlabelFrom : Nat → Int32) (zlabelSize : Nat → Int32) (zlabelAddress : Nat → Int32) (zmade : Nat → Int32) (x1 : Int32) (x2 : Int32) (x4 : Int32) (x5 : Int32) (x6 : Int32) (H : Heap) (locs : List Loc) (ls : Array Slot), b_MD_oneLine_154 zat zend zline zlabels zaddress zmissing zgood zvalueFrom ztape zwants zlabelFrom zlabelSize zlabelAddress zmade x1 x2 x4 x5 x6 = some (o_r, o_zat, o_zlabels, o_zaddress, o_zmissing, o_zgood, o_zvalue, o_zvalueFrom, o_zvalueSize, o_zlabelFrom, o_zlabelSize, o_zlabelAddress, o_zmade) → va_P E.1 classes [(n0, .inr (6, [.ref n_tape, .int ztaped, .ref n_isThere, .ref n_size, .ref n_depth, .ref n_memory, .ref n_register, .ref n_mode, .ref n_pc, .ref n_base, .ref n_bound, .ref n_timer, .ref n_ranOut, .ref n_halted, .ref n_steps, .ref n_outs, .ref n_output, .ref n_waits, .ref n_typed, .ref n_disk, .ref n_wants, .int zat, .int zend, .int zline, .ref n_labelFrom, .ref n_labelSize, .ref n_labelAddress, .int zlabels, .int zfault, .int zfaultLine, .int zisTold, .int zaddress, .ref n_made, .int zmissing, .int zgood, .int zvalue, .int zvalueFrom, .int zvalueSize, .int zme])), (n_tape, .inl (E.2.1 2, 3000, .inl ztape)), (n_wants, .inl (E.2.1 0, 25, .inl zwants)), (n_labelFrom, .inl (E.2.1 0, 100, .inl zlabelFrom)), (n_labelSize, .inl (E.2.1 0, 100, .inl zlabelSize)), (n_labelAddress, .inl (E.2.1 0, 100, .inl zlabelAddress)), (n_made, .inl (E.2.1 0, 1024, .inl zmade))] H → va_D A [(n0, .inr (6, [.ref n_tape, .int ztaped, .ref n_isThere, .ref n_size, .ref n_depth, .ref n_memory, .ref n_register, .ref n_mode, .ref n_pc, .ref n_base, .ref n_bound, .ref n_timer, .ref n_ranOut, .ref n_halted, .ref n_steps, .ref n_outs, .ref n_output, .ref n_waits, .ref n_typed, .ref n_disk, .ref n_wants, .int zat, .int zend, .int zline, .ref n_labelFrom, .ref n_labelSize, .ref n_labelAddress, .int zlabels, .int zfault, .int zfaultLine, .int zisTold, .int zaddress, .ref n_made, .int zmissing, .int zgood, .int zvalue, .int zvalueFrom, .int zvalueSize, .int zme])), (n_tape, .inl (E.2.1 2, 3000, .inl ztape)), (n_wants, .inl (E.2.1 0, 25, .inl zwants)), (n_labelFrom, .inl (E.2.1 0, 100, .inl zlabelFrom)), (n_labelSize, .inl (E.2.1 0, 100, .inl zlabelSize)), (n_labelAddress, .inl (E.2.1 0, 100, .inl zlabelAddress)), (n_made, .inl (E.2.1 0, 1024, .inl zmade))] → va_S A s.heap H locs → lv_has ls 11 [(0, .ref n0), (1, .int x1), (2, .int x2), (4, .int x4), (5, .int x5), (6, .int x6)] → W p l e ({ frames := 3, cells := 0, slots := 0, locals := 64 }) s m ([.ref n0, .int p1, .int p2] : List Value).toArray below meth c H locs 0 0 (MQ below (va_Qi (fun (r' : Int32) (u : va_W) => r' = o_r ∧ u = [(n0, .inr (6, [.ref n_tape, .int ztaped, .ref n_isThere, .ref n_size, .ref n_depth, .ref n_memory, .ref n_register, .ref n_mode, .ref n_pc, .ref n_base, .ref n_bound, .ref n_timer, .ref n_ranOut, .ref n_halted, .ref n_steps, .ref n_outs, .ref n_output, .ref n_waits, .ref n_typed, .ref n_disk, .ref n_wants, .int o_zat, .int zend, .int zline, .ref n_labelFrom, .ref n_labelSize, .ref n_labelAddress, .int o_zlabels, .int zfault, .int zfaultLine, .int zisTold, .int o_zaddress, .ref n_made, .int o_zmissing, .int o_zgood, .int o_zvalue, .int o_zvalueFrom, .int o_zvalueSize, .int zme])), (n_tape, .inl (E.2.1 2, 3000, .inl ztape)), (n_wants, .inl (E.2.1 0, 25, .inl zwants)), (n_labelFrom, .inl (E.2.1 0, 100, .inl o_zlabelFrom)), (n_labelSize, .inl (E.2.1 0, 100, .inl o_zlabelSize)), (n_labelAddress, .inl (E.2.1 0, 100, .inl o_zlabelAddress)), (n_made, .inl (E.2.1 0, 1024, .inl o_zmade))]) (BW E A) A) ([.ref n0, .int p1, .int p2] : List Value).toArray s 0 0 A) (F0 m 154 ls []) := by
  intro ztaped zat zend zline zlabels zfault zfaultLine zisTold zaddress zmissing zgood zvalue zvalueFrom zvalueSize zme ztape zwants zlabelFrom zlabelSize zlabelAddress zmade x1 x2 x4 x5 x6 H locs ls h hP hD hS hl
  rw [b_MD_oneLine_154] at h
  refine lv_aload_n J.1 J.2.1 d_MD_oneLine_154 rfl (lv_at hl 0 rfl) ?_
  replace h := g_bd h
  obtain ⟨zat_49, q_49, h⟩ := h
  have hq := ct_MD_blanks l E n0 n_base n_bound n_depth n_disk n_halted n_isThere n_labelAddress n_labelFrom n_labelSize n_made n_memory n_mode n_output n_outs n_pc n_ranOut n_register n_size n_steps n_tape n_timer n_typed n_waits n_wants H.size ztaped zat zend zline zlabels zfault zfaultLine zisTold zaddress zmissing zgood zvalue zvalueFrom zvalueSize zme ztape zat_49 q_49
  have hr := jrunV (p := p) (e := e) (below := below) (R := ({ frames := 3, cells := 0, slots := 0, locals := 64 })) (cells := 0) (slots := 0) (As := []) (rest := []) J hJ hA hZ hP hD hS hq [0, 1] rfl (by decide) gl_MD_181 gi_MD_blanks gsel_MD_blanks gini_MD gc_MD_blanks hd_MD_blanks ⟨rfl, rfl, Nat.le_of_ble_eq_true rfl, Nat.le_of_ble_eq_true rfl⟩ rfl rfl hl.1 rfl rfl (Nat.le_of_ble_eq_true rfl) d_MD_oneLine_155 ⟨Nat.zero_le _, Nat.zero_le _⟩
  clear hq
  refine jk_v hr hA hP hD hS [0, 1] [2, 3, 4, 5, 6] (WR := [(n_wants, .inl (E.2.1 0, 25, .inl zwants)), (n_labelFrom, .inl (E.2.1 0, 100, .inl zlabelFrom)), (n_labelSize, .inl (E.2.1 0, 100, .inl zlabelSize)), (n_labelAddress, .inl (E.2.1 0, 100, .inl zlabelAddress)), (n_made, .inl (E.2.1 0, 1024, .inl zmade))]) rfl rfl (by decide) (by decide) [5, 6, 0, 1, 2, 3, 4] (WF := [(n0, .inr (6, [.ref n_tape, .int ztaped, .ref n_isThere, .ref n_size, .ref n_depth, .ref n_memory, .ref n_register, .ref n_mode, .ref n_pc, .ref n_base, .ref n_bound, .ref n_timer, .ref n_ranOut, .ref n_halted, .ref n_steps, .ref n_outs, .ref n_output, .ref n_waits, .ref n_typed, .ref n_disk, .ref n_wants, .int zat_49, .int zend, .int zline, .ref n_labelFrom, .ref n_labelSize, .ref n_labelAddress, .int zlabels, .int zfault, .int zfaultLine, .int zisTold, .int zaddress, .ref n_made, .int zmissing, .int zgood, .int zvalue, .int zvalueFrom, .int zvalueSize, .int zme])), (n_tape, .inl (E.2.1 2, 3000, .inl ztape)), (n_wants, .inl (E.2.1 0, 25, .inl zwants)), (n_labelFrom, .inl (E.2.1 0, 100, .inl zlabelFrom)), (n_labelSize, .inl (E.2.1 0, 100, .inl zlabelSize)), (n_labelAddress, .inl (E.2.1 0, 100, .inl zlabelAddress)), (n_made, .inl (E.2.1 0, 1024, .inl zmade))]) rfl (by decide) ?_
  clear hP hD hS
  intro H locs hP hD hS
  clear hr
  refine lv_iconst (v := (-1)) J.1 J.2.1 d_MD_oneLine_158 (by decide) ?_
  refine lv_istore (lv' := [(7, .int (-1)), (0, .ref n0), (1, .int x1), (2, .int x2), (4, .int x4), (5, .int x5), (6, .int x6)]) J.1 J.2.1 d_MD_oneLine_159 hl (by decide) rfl ?_
  clear hl
  intro ls hl
  refine lv_iconst (v := 0) J.1 J.2.1 d_MD_oneLine_161 (by decide) ?_
  refine lv_istore (lv' := [(8, .int 0), (7, .int (-1)), (0, .ref n0), (1, .int x1), (2, .int x2), (4, .int x4), (5, .int x5), (6, .int x6)]) J.1 J.2.1 d_MD_oneLine_162 hl (by decide) rfl ?_
  clear hl
  intro ls hl
  refine lv_iconst (v := 0) J.1 J.2.1 d_MD_oneLine_164 (by decide) ?_
  refine lv_istore (lv' := [(9, .int 0), (8, .int 0), (7, .int (-1)), (0, .ref n0), (1, .int x1), (2, .int x2), (4, .int x4), (5, .int x5), (6, .int x6)]) J.1 J.2.1 d_MD_oneLine_165 hl (by decide) rfl ?_
  clear hl
  intro ls hl
  refine lv_aload_n J.1 J.2.1 d_MD_oneLine_167 rfl (lv_at hl 3 rfl) ?_
  refine lv_iconst (v := 0) J.1 J.2.1 d_MD_oneLine_168 (by decide) ?_
  refine jp J hJ hP hD hS 0 rfl rfl i_MD t_MD t_MD_ok n_MD 37 (by decide) gf_MD_188 rfl rfl rfl (Nat.le_of_ble_eq_true rfl) d_MD_oneLine_169 (WS' := [(n0, .inr (6, [.ref n_tape, .int ztaped, .ref n_isThere, .ref n_size, .ref n_depth, .ref n_memory, .ref n_register, .ref n_mode, .ref n_pc, .ref n_base, .ref n_bound, .ref n_timer, .ref n_ranOut, .ref n_halted, .ref n_steps, .ref n_outs, .ref n_output, .ref n_waits, .ref n_typed, .ref n_disk, .ref n_wants, .int zat_49, .int zend, .int zline, .ref n_labelFrom, .ref n_labelSize, .ref n_labelAddress, .int zlabels, .int zfault, .int zfaultLine, .int zisTold, .int zaddress, .ref n_made, .int zmissing, .int zgood, .int zvalue, .int zvalueFrom, .int 0, .int zme])), (n_tape, .inl (E.2.1 2, 3000, .inl ztape)), (n_wants, .inl (E.2.1 0, 25, .inl zwants)), (n_labelFrom, .inl (E.2.1 0, 100, .inl zlabelFrom)), (n_labelSize, .inl (E.2.1 0, 100, .inl zlabelSize)), (n_labelAddress, .inl (E.2.1 0, 100, .inl zlabelAddress)), (n_made, .inl (E.2.1 0, 1024, .inl zmade))]) rfl ?_
  clear hP hD hS
  intro H locs hP hD hS
  refine lv_aload_n J.1 J.2.1 d_MD_oneLine_172 rfl (lv_at hl 3 rfl) ?_
  refine lv_iconst (v := 0) J.1 J.2.1 d_MD_oneLine_173 (by decide) ?_
  refine jp J hJ hP hD hS 0 rfl rfl i_MD t_MD t_MD_ok n_MD 35 (by decide) gf_MD_191 rfl rfl rfl (Nat.le_of_ble_eq_true rfl) d_MD_oneLine_174 (WS' := [(n0, .inr (6, [.ref n_tape, .int ztaped, .ref n_isThere, .ref n_size, .ref n_depth, .ref n_memory, .ref n_register, .ref n_mode, .ref n_pc, .ref n_base, .ref n_bound, .ref n_timer, .ref n_ranOut, .ref n_halted, .ref n_steps, .ref n_outs, .ref n_output, .ref n_waits, .ref n_typed, .ref n_disk, .ref n_wants, .int zat_49, .int zend, .int zline, .ref n_labelFrom, .ref n_labelSize, .ref n_labelAddress, .int zlabels, .int zfault, .int zfaultLine, .int zisTold, .int zaddress, .ref n_made, .int zmissing, .int zgood, .int 0, .int zvalueFrom, .int 0, .int zme])), (n_tape, .inl (E.2.1 2, 3000, .inl ztape)), (n_wants, .inl (E.2.1 0, 25, .inl zwants)), (n_labelFrom, .inl (E.2.1 0, 100, .inl zlabelFrom)), (n_labelSize, .inl (E.2.1 0, 100, .inl zlabelSize)), (n_labelAddress, .inl (E.2.1 0, 100, .inl zlabelAddress)), (n_made, .inl (E.2.1 0, 1024, .inl zmade))]) rfl ?_
  clear hP hD hS
  intro H locs hP hD hS
  refine lv_aload_n J.1 J.2.1 d_MD_oneLine_177 rfl (lv_at hl 3 rfl) ?_
  replace h := g_bd h
  obtain ⟨r_50, q_50, h⟩ := h
  have hq := ct_MD_isOver l E n0 n_base n_bound n_depth n_disk n_halted n_isThere n_labelAddress n_labelFrom n_labelSize n_made n_memory n_mode n_output n_outs n_pc n_ranOut n_register n_size n_steps n_tape n_timer n_typed n_waits n_wants H.size ztaped zat_49 zend zline zlabels zfault zfaultLine zisTold zaddress zmissing zgood 0 zvalueFrom 0 zme ztape r_50 q_50
  have hr := jrunV (p := p) (e := e) (below := below) (R := ({ frames := 3, cells := 0, slots := 0, locals := 64 })) (cells := 0) (slots := 0) (As := []) (rest := []) J hJ hA hZ hP hD hS hq [0, 1] rfl (by decide) gl_MD_217 gi_MD_isOver gsel_MD_isOver gini_MD gc_MD_isOver hd_MD_isOver ⟨rfl, rfl, Nat.le_of_ble_eq_true rfl, Nat.le_of_ble_eq_true rfl⟩ rfl rfl hl.1 rfl rfl (Nat.le_of_ble_eq_true rfl) d_MD_oneLine_178 ⟨Nat.zero_le _, Nat.zero_le _⟩
  clear hq
  refine jk_i hr hA hP hD hS [0, 1] [2, 3, 4, 5, 6] (WR := [(n_wants, .inl (E.2.1 0, 25, .inl zwants)), (n_labelFrom, .inl (E.2.1 0, 100, .inl zlabelFrom)), (n_labelSize, .inl (E.2.1 0, 100, .inl zlabelSize)), (n_labelAddress, .inl (E.2.1 0, 100, .inl zlabelAddress)), (n_made, .inl (E.2.1 0, 1024, .inl zmade))]) rfl rfl (by decide) (by decide) [5, 6, 0, 1, 2, 3, 4] (WF := [(n0, .inr (6, [.ref n_tape, .int ztaped, .ref n_isThere, .ref n_size, .ref n_depth, .ref n_memory, .ref n_register, .ref n_mode, .ref n_pc, .ref n_base, .ref n_bound, .ref n_timer, .ref n_ranOut, .ref n_halted, .ref n_steps, .ref n_outs, .ref n_output, .ref n_waits, .ref n_typed, .ref n_disk, .ref n_wants, .int zat_49, .int zend, .int zline, .ref n_labelFrom, .ref n_labelSize, .ref n_labelAddress, .int zlabels, .int zfault, .int zfaultLine, .int zisTold, .int zaddress, .ref n_made, .int zmissing, .int zgood, .int 0, .int zvalueFrom, .int 0, .int zme])), (n_tape, .inl (E.2.1 2, 3000, .inl ztape)), (n_wants, .inl (E.2.1 0, 25, .inl zwants)), (n_labelFrom, .inl (E.2.1 0, 100, .inl zlabelFrom)), (n_labelSize, .inl (E.2.1 0, 100, .inl zlabelSize)), (n_labelAddress, .inl (E.2.1 0, 100, .inl zlabelAddress)), (n_made, .inl (E.2.1 0, 1024, .inl zmade))]) rfl (by decide) ?_
  clear hP hD hS
  intro H locs hP hD hS
  clear hr
  refine lv_if_ne (tgt := 334) J.1 J.2.1 d_MD_oneLine_181 (by decide) (fun c_51 => ?_) (fun c_51 => ?_)
  · replace h := g_f c_51 h
    exact kb_MD_oneLine_334 J hJ hA hZ _ _ _ _ _ _ _ _ _ _ _ _ _ _ _ _ _ _ _ _ _ _ _ _ _ _ _ _ _ _ _ _ h hP hD hS (lv_sub hl [3, 4, 5, 6, 7, 8, 2, 1, 0] rfl)
  · replace h := g_t c_51 h
    refine lv_aload_n J.1 J.2.1 d_MD_oneLine_184 rfl (lv_at hl 3 rfl) ?_
    replace h := g_bd h
    obtain ⟨⟨r_52, zat_52⟩, q_52, h⟩ := h
    try dsimp only at h
    have hq := ct_MD_order l E n0 n_base n_bound n_depth n_disk n_halted n_isThere n_labelAddress n_labelFrom n_labelSize n_made n_memory n_mode n_output n_outs n_pc n_ranOut n_register n_size n_steps n_tape n_timer n_typed n_waits n_wants H.size ztaped zat_49 zend zline zlabels zfault zfaultLine zisTold zaddress zmissing zgood 0 zvalueFrom 0 zme ztape r_52 zat_52 q_52
    have hr := jrunV (p := p) (e := e) (below := below) (R := ({ frames := 3, cells := 0, slots := 0, locals := 64 })) (cells := 0) (slots := 0) (As := []) (rest := []) J hJ hA hZ hP hD hS hq [0, 1] rfl (by decide) gl_MD_221 gi_MD_order gsel_MD_order gini_MD gc_MD_order hd_MD_order ⟨rfl, rfl, Nat.le_of_ble_eq_true rfl, Nat.le_of_ble_eq_true rfl⟩ rfl rfl hl.1 rfl rfl (Nat.le_of_ble_eq_true rfl) d_MD_oneLine_185 ⟨Nat.zero_le _, Nat.zero_le _⟩
    clear hq
    refine jk_i hr hA hP hD hS [0, 1] [2, 3, 4, 5, 6] (WR := [(n_wants, .inl (E.2.1 0, 25, .inl zwants)), (n_labelFrom, .inl (E.2.1 0, 100, .inl zlabelFrom)), (n_labelSize, .inl (E.2.1 0, 100, .inl zlabelSize)), (n_labelAddress, .inl (E.2.1 0, 100, .inl zlabelAddress)), (n_made, .inl (E.2.1 0, 1024, .inl zmade))]) rfl rfl (by decide) (by decide) [5, 6, 0, 1, 2, 3, 4] (WF := [(n0, .inr (6, [.ref n_tape, .int ztaped, .ref n_isThere, .ref n_size, .ref n_depth, .ref n_memory, .ref n_register, .ref n_mode, .ref n_pc, .ref n_base, .ref n_bound, .ref n_timer, .ref n_ranOut, .ref n_halted, .ref n_steps, .ref n_outs, .ref n_output, .ref n_waits, .ref n_typed, .ref n_disk, .ref n_wants, .int zat_52, .int zend, .int zline, .ref n_labelFrom, .ref n_labelSize, .ref n_labelAddress, .int zlabels, .int zfault, .int zfaultLine, .int zisTold, .int zaddress, .ref n_made, .int zmissing, .int zgood, .int 0, .int zvalueFrom, .int 0, .int zme])), (n_tape, .inl (E.2.1 2, 3000, .inl ztape)), (n_wants, .inl (E.2.1 0, 25, .inl zwants)), (n_labelFrom, .inl (E.2.1 0, 100, .inl zlabelFrom)), (n_labelSize, .inl (E.2.1 0, 100, .inl zlabelSize)), (n_labelAddress, .inl (E.2.1 0, 100, .inl zlabelAddress)), (n_made, .inl (E.2.1 0, 1024, .inl zmade))]) rfl (by decide) ?_
    clear hP hD hS
    intro H locs hP hD hS
    clear hr
    refine lv_istore (lv' := [(7, .int r_52), (9, .int 0), (8, .int 0), (0, .ref n0), (1, .int x1), (2, .int x2), (4, .int x4), (5, .int x5), (6, .int x6)]) J.1 J.2.1 d_MD_oneLine_188 hl (by decide) rfl ?_
    clear hl
    intro ls hl
    refine lv_aload_n J.1 J.2.1 d_MD_oneLine_190 rfl (lv_at hl 3 rfl) ?_
    refine lv_aload_n J.1 J.2.1 d_MD_oneLine_191 rfl (lv_at hl 3 rfl) ?_
    refine jg J hJ hP 0 rfl rfl i_MD 34 (by decide) gf_MD_177 rfl d_MD_oneLine_192 ?_
    refine lv_if_eq (tgt := 207) J.1 J.2.1 d_MD_oneLine_195 (by decide) (fun c_53 => ?_) (fun c_53 => ?_)
    · replace h := g_t c_53 h
      refine lv_iconst (v := 0) J.1 J.2.1 d_MD_oneLine_207 (by decide) ?_
      refine jp J hJ hP hD hS 0 rfl rfl i_MD t_MD t_MD_ok n_MD 34 (by decide) gf_MD_177 rfl rfl rfl (Nat.le_of_ble_eq_true rfl) d_MD_oneLine_208 (WS' := [(n0, .inr (6, [.ref n_tape, .int ztaped, .ref n_isThere, .ref n_size, .ref n_depth, .ref n_memory, .ref n_register, .ref n_mode, .ref n_pc, .ref n_base, .ref n_bound, .ref n_timer, .ref n_ranOut, .ref n_halted, .ref n_steps, .ref n_outs, .ref n_output, .ref n_waits, .ref n_typed, .ref n_disk, .ref n_wants, .int zat_52, .int zend, .int zline, .ref n_labelFrom, .ref n_labelSize, .ref n_labelAddress, .int zlabels, .int zfault, .int zfaultLine, .int zisTold, .int zaddress, .ref n_made, .int zmissing, .int 0, .int 0, .int zvalueFrom, .int 0, .int zme])), (n_tape, .inl (E.2.1 2, 3000, .inl ztape)), (n_wants, .inl (E.2.1 0, 25, .inl zwants)), (n_labelFrom, .inl (E.2.1 0, 100, .inl zlabelFrom)), (n_labelSize, .inl (E.2.1 0, 100, .inl zlabelSize)), (n_labelAddress, .inl (E.2.1 0, 100, .inl zlabelAddress)), (n_made, .inl (E.2.1 0, 1024, .inl zmade))]) rfl ?_
      clear hP hD hS
      intro H locs hP hD hS
      exact kb_MD_oneLine_211 J hJ hA hZ _ _ _ _ _ _ _ _ _ _ _ _ _ _ _ _ _ _ _ _ _ _ _ _ _ _ _ _ _ _ _ _ h hP hD hS (lv_sub hl [3, 4, 5, 6, 7, 8, 0, 2, 1] rfl)
    · replace h := g_f c_53 h
      refine lv_iload J.1 J.2.1 d_MD_oneLine_198 (lv_at hl 0 rfl) ?_
      refine lv_if_lt (tgt := 207) J.1 J.2.1 d_MD_oneLine_200 (by decide) (fun c_54 => ?_) (fun c_54 => ?_)
      · replace h := g_t c_54 h
        refine lv_iconst (v := 0) J.1 J.2.1 d_MD_oneLine_207 (by decide) ?_
        refine jp J hJ hP hD hS 0 rfl rfl i_MD t_MD t_MD_ok n_MD 34 (by decide) gf_MD_177 rfl rfl rfl (Nat.le_of_ble_eq_true rfl) d_MD_oneLine_208 (WS' := [(n0, .inr (6, [.ref n_tape, .int ztaped, .ref n_isThere, .ref n_size, .ref n_depth, .ref n_memory, .ref n_register, .ref n_mode, .ref n_pc, .ref n_base, .ref n_bound, .ref n_timer, .ref n_ranOut, .ref n_halted, .ref n_steps, .ref n_outs, .ref n_output, .ref n_waits, .ref n_typed, .ref n_disk, .ref n_wants, .int zat_52, .int zend, .int zline, .ref n_labelFrom, .ref n_labelSize, .ref n_labelAddress, .int zlabels, .int zfault, .int zfaultLine, .int zisTold, .int zaddress, .ref n_made, .int zmissing, .int 0, .int 0, .int zvalueFrom, .int 0, .int zme])), (n_tape, .inl (E.2.1 2, 3000, .inl ztape)), (n_wants, .inl (E.2.1 0, 25, .inl zwants)), (n_labelFrom, .inl (E.2.1 0, 100, .inl zlabelFrom)), (n_labelSize, .inl (E.2.1 0, 100, .inl zlabelSize)), (n_labelAddress, .inl (E.2.1 0, 100, .inl zlabelAddress)), (n_made, .inl (E.2.1 0, 1024, .inl zmade))]) rfl ?_
        clear hP hD hS
        intro H locs hP hD hS
        exact kb_MD_oneLine_211 J hJ hA hZ _ _ _ _ _ _ _ _ _ _ _ _ _ _ _ _ _ _ _ _ _ _ _ _ _ _ _ _ _ _ _ _ h hP hD hS (lv_sub hl [3, 4, 5, 6, 7, 8, 0, 2, 1] rfl)
      · replace h := g_f c_54 h
        refine lv_iconst (v := 1) J.1 J.2.1 d_MD_oneLine_203 (by decide) ?_
        refine lv_goto (tgt := 208) J.1 J.2.1 d_MD_oneLine_204 (by decide) ?_
        refine jp J hJ hP hD hS 0 rfl rfl i_MD t_MD t_MD_ok n_MD 34 (by decide) gf_MD_177 rfl rfl rfl (Nat.le_of_ble_eq_true rfl) d_MD_oneLine_208 (WS' := [(n0, .inr (6, [.ref n_tape, .int ztaped, .ref n_isThere, .ref n_size, .ref n_depth, .ref n_memory, .ref n_register, .ref n_mode, .ref n_pc, .ref n_base, .ref n_bound, .ref n_timer, .ref n_ranOut, .ref n_halted, .ref n_steps, .ref n_outs, .ref n_output, .ref n_waits, .ref n_typed, .ref n_disk, .ref n_wants, .int zat_52, .int zend, .int zline, .ref n_labelFrom, .ref n_labelSize, .ref n_labelAddress, .int zlabels, .int zfault, .int zfaultLine, .int zisTold, .int zaddress, .ref n_made, .int zmissing, .int 1, .int 0, .int zvalueFrom, .int 0, .int zme])), (n_tape, .inl (E.2.1 2, 3000, .inl ztape)), (n_wants, .inl (E.2.1 0, 25, .inl zwants)), (n_labelFrom, .inl (E.2.1 0, 100, .inl zlabelFrom)), (n_labelSize, .inl (E.2.1 0, 100, .inl zlabelSize)), (n_labelAddress, .inl (E.2.1 0, 100, .inl zlabelAddress)), (n_made, .inl (E.2.1 0, 1024, .inl zmade))]) rfl ?_
        clear hP hD hS
        intro H locs hP hD hS
        exact kb_MD_oneLine_211 J hJ hA hZ _ _ _ _ _ _ _ _ _ _ _ _ _ _ _ _ _ _ _ _ _ _ _ _ _ _ _ _ _ _ _ _ h hP hD hS (lv_sub hl [3, 4, 5, 6, 7, 8, 0, 2, 1] rfl)
set_option maxHeartbeats 4000000 in
set_option maxRecDepth 100000 in
theorem kb_MD_oneLine_136 {p : Program} {l : Launch} {e : Env} {s : State} {m : MethodId} {below : List Frame} {meth : Method} {c : Code} {A : Nat → Prop} {E : jz_E} {n0 n_base n_bound n_depth n_disk n_halted n_isThere n_labelAddress n_labelFrom n_labelSize n_made n_memory n_mode n_output n_outs n_pc n_ranOut n_register n_size n_steps n_tape n_timer n_typed n_waits n_wants : Nat} {p1 : Int32} {p2 : Int32} {o_r : Int32} {o_zat : Int32} {o_zlabels : Int32} {o_zaddress : Int32} {o_zmissing : Int32} {o_zgood : Int32} {o_zvalue : Int32} {o_zvalueFrom : Int32} {o_zvalueSize : Int32} {o_zlabelFrom : Nat → Int32} {o_zlabelSize : Nat → Int32} {o_zlabelAddress : Nat → Int32} {o_zmade : Nat → Int32} (J : JC p s m ([.ref n0, .int p1, .int p2] : List Value).toArray meth c c_MD_oneLine 11 (some .int) y_MD_oneLine.cls) (hJ : jE E s) (hA : ∀ q : Nat, s.heap.size ≤ q → A q) (hZ : jz_ok E A s s.heap) : ∀ (ztaped : Int32) (zat : Int32) (zend : Int32) (zline : Int32) (zlabels : Int32) (zfault : Int32) (zfaultLine : Int32) (zisTold : Int32) (zaddress : Int32) (zmissing : Int32) (zgood : Int32) (zvalue : Int32) (zvalueFrom : Int32) (zvalueSize : Int32) (zme : Int32) (ztape : Nat → Int32) (zwants : Nat → Int32) (zlabelFrom : Nat → Int32) (zlabelSize : Nat → Int32) (zlabelAddress : Nat → Int32) (zmade : Nat → Int32) (x1 : Int32) (x2 : Int32) (x4 : Int32) (x5 : Int32) (x6 : Int32) (H : Heap) (locs : List Loc) (ls : Array Slot), b_MD_oneLine_136 zat zend zline zlabels zaddress zmissing zgood zvalueFrom ztape zwants zlabelFrom zlabelSize zlabelAddress zmade x1 x2 x4 x5 x6 = some (o_r, o_zat, o_zlabels, o_zaddress, o_zmissing, o_zgood, o_zvalue, o_zvalueFrom, o_zvalueSize, o_zlabelFrom, o_zlabelSize, o_zlabelAddress, o_zmade) → va_P E.1 classes [(n0, .inr (6, [.ref n_tape, .int ztaped, .ref n_isThere, .ref n_size, .ref n_depth, .ref n_memory, .ref n_register, .ref n_mode, .ref n_pc, .ref n_base, .ref n_bound, .ref n_timer, .ref n_ranOut, .ref n_halted, .ref n_steps, .ref n_outs, .ref n_output, .ref n_waits, .ref n_typed, .ref n_disk, .ref n_wants, .int zat, .int zend, .int zline, .ref n_labelFrom, .ref n_labelSize, .ref n_labelAddress, .int zlabels, .int zfault, .int zfaultLine, .int zisTold, .int zaddress, .ref n_made, .int zmissing, .int zgood, .int zvalue, .int zvalueFrom, .int zvalueSize, .int zme])), (n_tape, .inl (E.2.1 2, 3000, .inl ztape)), (n_wants, .inl (E.2.1 0, 25, .inl zwants)), (n_labelFrom, .inl (E.2.1 0, 100, .inl zlabelFrom)), (n_labelSize, .inl (E.2.1 0, 100, .inl zlabelSize)), (n_labelAddress, .inl (E.2.1 0, 100, .inl zlabelAddress)), (n_made, .inl (E.2.1 0, 1024, .inl zmade))] H → va_D A [(n0, .inr (6, [.ref n_tape, .int ztaped, .ref n_isThere, .ref n_size, .ref n_depth, .ref n_memory, .ref n_register, .ref n_mode, .ref n_pc, .ref n_base, .ref n_bound, .ref n_timer, .ref n_ranOut, .ref n_halted, .ref n_steps, .ref n_outs, .ref n_output, .ref n_waits, .ref n_typed, .ref n_disk, .ref n_wants, .int zat, .int zend, .int zline, .ref n_labelFrom, .ref n_labelSize, .ref n_labelAddress, .int zlabels, .int zfault, .int zfaultLine, .int zisTold, .int zaddress, .ref n_made, .int zmissing, .int zgood, .int zvalue, .int zvalueFrom, .int zvalueSize, .int zme])), (n_tape, .inl (E.2.1 2, 3000, .inl ztape)), (n_wants, .inl (E.2.1 0, 25, .inl zwants)), (n_labelFrom, .inl (E.2.1 0, 100, .inl zlabelFrom)), (n_labelSize, .inl (E.2.1 0, 100, .inl zlabelSize)), (n_labelAddress, .inl (E.2.1 0, 100, .inl zlabelAddress)), (n_made, .inl (E.2.1 0, 1024, .inl zmade))] → va_S A s.heap H locs → lv_has ls 11 [(0, .ref n0), (1, .int x1), (2, .int x2), (4, .int x4), (5, .int x5), (6, .int x6)] → W p l e ({ frames := 3, cells := 0, slots := 0, locals := 64 }) s m ([.ref n0, .int p1, .int p2] : List Value).toArray below meth c H locs 0 0 (MQ below (va_Qi (fun (r' : Int32) (u : va_W) => r' = o_r ∧ u = [(n0, .inr (6, [.ref n_tape, .int ztaped, .ref n_isThere, .ref n_size, .ref n_depth, .ref n_memory, .ref n_register, .ref n_mode, .ref n_pc, .ref n_base, .ref n_bound, .ref n_timer, .ref n_ranOut, .ref n_halted, .ref n_steps, .ref n_outs, .ref n_output, .ref n_waits, .ref n_typed, .ref n_disk, .ref n_wants, .int o_zat, .int zend, .int zline, .ref n_labelFrom, .ref n_labelSize, .ref n_labelAddress, .int o_zlabels, .int zfault, .int zfaultLine, .int zisTold, .int o_zaddress, .ref n_made, .int o_zmissing, .int o_zgood, .int o_zvalue, .int o_zvalueFrom, .int o_zvalueSize, .int zme])), (n_tape, .inl (E.2.1 2, 3000, .inl ztape)), (n_wants, .inl (E.2.1 0, 25, .inl zwants)), (n_labelFrom, .inl (E.2.1 0, 100, .inl o_zlabelFrom)), (n_labelSize, .inl (E.2.1 0, 100, .inl o_zlabelSize)), (n_labelAddress, .inl (E.2.1 0, 100, .inl o_zlabelAddress)), (n_made, .inl (E.2.1 0, 1024, .inl o_zmade))]) (BW E A) A) ([.ref n0, .int p1, .int p2] : List Value).toArray s 0 0 A) (F0 m 136 ls []) := by
  intro ztaped zat zend zline zlabels zfault zfaultLine zisTold zaddress zmissing zgood zvalue zvalueFrom zvalueSize zme ztape zwants zlabelFrom zlabelSize zlabelAddress zmade x1 x2 x4 x5 x6 H locs ls h hP hD hS hl
  rw [b_MD_oneLine_136] at h
  refine lv_iload J.1 J.2.1 d_MD_oneLine_136 (lv_at hl 5 rfl) ?_
  refine lv_if_eq (tgt := 154) J.1 J.2.1 d_MD_oneLine_138 (by decide) (fun c_55 => ?_) (fun c_55 => ?_)
  · replace h := g_t c_55 h
    exact kb_MD_oneLine_154 J hJ hA hZ _ _ _ _ _ _ _ _ _ _ _ _ _ _ _ _ _ _ _ _ _ _ _ _ _ _ _ _ _ h hP hD hS (lv_sub hl [0, 1, 2, 3, 4, 5] rfl)
  · replace h := g_f c_55 h
    refine lv_aload_n J.1 J.2.1 d_MD_oneLine_141 rfl (lv_at hl 0 rfl) ?_
    refine lv_dup J.1 J.2.1 d_MD_oneLine_142 rfl ?_
    refine jg J hJ hP 0 rfl rfl i_MD 21 (by decide) gf_MD_95 rfl d_MD_oneLine_143 ?_
    refine lv_iload J.1 J.2.1 d_MD_oneLine_146 (lv_at hl 3 rfl) ?_
    refine lv_iconst (v := 1) J.1 J.2.1 d_MD_oneLine_148 (by decide) ?_
    refine lv_iadd J.1 J.2.1 d_MD_oneLine_149 ?_
    refine lv_iadd J.1 J.2.1 d_MD_oneLine_150 ?_
    refine jp J hJ hP hD hS 0 rfl rfl i_MD t_MD t_MD_ok n_MD 21 (by decide) gf_MD_95 rfl rfl rfl (Nat.le_of_ble_eq_true rfl) d_MD_oneLine_151 (WS' := [(n0, .inr (6, [.ref n_tape, .int ztaped, .ref n_isThere, .ref n_size, .ref n_depth, .ref n_memory, .ref n_register, .ref n_mode, .ref n_pc, .ref n_base, .ref n_bound, .ref n_timer, .ref n_ranOut, .ref n_halted, .ref n_steps, .ref n_outs, .ref n_output, .ref n_waits, .ref n_typed, .ref n_disk, .ref n_wants, .int (zat + (x4 + 1)), .int zend, .int zline, .ref n_labelFrom, .ref n_labelSize, .ref n_labelAddress, .int zlabels, .int zfault, .int zfaultLine, .int zisTold, .int zaddress, .ref n_made, .int zmissing, .int zgood, .int zvalue, .int zvalueFrom, .int zvalueSize, .int zme])), (n_tape, .inl (E.2.1 2, 3000, .inl ztape)), (n_wants, .inl (E.2.1 0, 25, .inl zwants)), (n_labelFrom, .inl (E.2.1 0, 100, .inl zlabelFrom)), (n_labelSize, .inl (E.2.1 0, 100, .inl zlabelSize)), (n_labelAddress, .inl (E.2.1 0, 100, .inl zlabelAddress)), (n_made, .inl (E.2.1 0, 1024, .inl zmade))]) rfl ?_
    clear hP hD hS
    intro H locs hP hD hS
    exact kb_MD_oneLine_154 J hJ hA hZ _ _ _ _ _ _ _ _ _ _ _ _ _ _ _ _ _ _ _ _ _ _ _ _ _ _ _ _ _ h hP hD hS (lv_sub hl [0, 1, 2, 3, 4, 5] rfl)
set_option maxHeartbeats 4000000 in
set_option maxRecDepth 100000 in
theorem kb_MD_oneLine_133 {p : Program} {l : Launch} {e : Env} {s : State} {m : MethodId} {below : List Frame} {meth : Method} {c : Code} {A : Nat → Prop} {E : jz_E} {n0 n_base n_bound n_depth n_disk n_halted n_isThere n_labelAddress n_labelFrom n_labelSize n_made n_memory n_mode n_output n_outs n_pc n_ranOut n_register n_size n_steps n_tape n_timer n_typed n_waits n_wants : Nat} {p1 : Int32} {p2 : Int32} {o_r : Int32} {o_zat : Int32} {o_zlabels : Int32} {o_zaddress : Int32} {o_zmissing : Int32} {o_zgood : Int32} {o_zvalue : Int32} {o_zvalueFrom : Int32} {o_zvalueSize : Int32} {o_zlabelFrom : Nat → Int32} {o_zlabelSize : Nat → Int32} {o_zlabelAddress : Nat → Int32} {o_zmade : Nat → Int32} (J : JC p s m ([.ref n0, .int p1, .int p2] : List Value).toArray meth c c_MD_oneLine 11 (some .int) y_MD_oneLine.cls) (hJ : jE E s) (hA : ∀ q : Nat, s.heap.size ≤ q → A q) (hZ : jz_ok E A s s.heap) : ∀ (ztaped : Int32) (zat : Int32) (zend : Int32) (zline : Int32) (zlabels : Int32) (zfault : Int32) (zfaultLine : Int32) (zisTold : Int32) (zaddress : Int32) (zmissing : Int32) (zgood : Int32) (zvalue : Int32) (zvalueFrom : Int32) (zvalueSize : Int32) (zme : Int32) (ztape : Nat → Int32) (zwants : Nat → Int32) (zlabelFrom : Nat → Int32) (zlabelSize : Nat → Int32) (zlabelAddress : Nat → Int32) (zmade : Nat → Int32) (x1 : Int32) (x2 : Int32) (x4 : Int32) (x5 : Int32) (H : Heap) (locs : List Loc) (ls : Array Slot), b_MD_oneLine_133 zat zend zline zlabels zaddress zmissing zgood zvalueFrom ztape zwants zlabelFrom zlabelSize zlabelAddress zmade x1 x2 x4 x5 = some (o_r, o_zat, o_zlabels, o_zaddress, o_zmissing, o_zgood, o_zvalue, o_zvalueFrom, o_zvalueSize, o_zlabelFrom, o_zlabelSize, o_zlabelAddress, o_zmade) → va_P E.1 classes [(n0, .inr (6, [.ref n_tape, .int ztaped, .ref n_isThere, .ref n_size, .ref n_depth, .ref n_memory, .ref n_register, .ref n_mode, .ref n_pc, .ref n_base, .ref n_bound, .ref n_timer, .ref n_ranOut, .ref n_halted, .ref n_steps, .ref n_outs, .ref n_output, .ref n_waits, .ref n_typed, .ref n_disk, .ref n_wants, .int zat, .int zend, .int zline, .ref n_labelFrom, .ref n_labelSize, .ref n_labelAddress, .int zlabels, .int zfault, .int zfaultLine, .int zisTold, .int zaddress, .ref n_made, .int zmissing, .int zgood, .int zvalue, .int zvalueFrom, .int zvalueSize, .int zme])), (n_tape, .inl (E.2.1 2, 3000, .inl ztape)), (n_wants, .inl (E.2.1 0, 25, .inl zwants)), (n_labelFrom, .inl (E.2.1 0, 100, .inl zlabelFrom)), (n_labelSize, .inl (E.2.1 0, 100, .inl zlabelSize)), (n_labelAddress, .inl (E.2.1 0, 100, .inl zlabelAddress)), (n_made, .inl (E.2.1 0, 1024, .inl zmade))] H → va_D A [(n0, .inr (6, [.ref n_tape, .int ztaped, .ref n_isThere, .ref n_size, .ref n_depth, .ref n_memory, .ref n_register, .ref n_mode, .ref n_pc, .ref n_base, .ref n_bound, .ref n_timer, .ref n_ranOut, .ref n_halted, .ref n_steps, .ref n_outs, .ref n_output, .ref n_waits, .ref n_typed, .ref n_disk, .ref n_wants, .int zat, .int zend, .int zline, .ref n_labelFrom, .ref n_labelSize, .ref n_labelAddress, .int zlabels, .int zfault, .int zfaultLine, .int zisTold, .int zaddress, .ref n_made, .int zmissing, .int zgood, .int zvalue, .int zvalueFrom, .int zvalueSize, .int zme])), (n_tape, .inl (E.2.1 2, 3000, .inl ztape)), (n_wants, .inl (E.2.1 0, 25, .inl zwants)), (n_labelFrom, .inl (E.2.1 0, 100, .inl zlabelFrom)), (n_labelSize, .inl (E.2.1 0, 100, .inl zlabelSize)), (n_labelAddress, .inl (E.2.1 0, 100, .inl zlabelAddress)), (n_made, .inl (E.2.1 0, 1024, .inl zmade))] → va_S A s.heap H locs → lv_has ls 11 [(0, .ref n0), (1, .int x1), (2, .int x2), (4, .int x4), (5, .int x5)] → W p l e ({ frames := 3, cells := 0, slots := 0, locals := 64 }) s m ([.ref n0, .int p1, .int p2] : List Value).toArray below meth c H locs 0 0 (MQ below (va_Qi (fun (r' : Int32) (u : va_W) => r' = o_r ∧ u = [(n0, .inr (6, [.ref n_tape, .int ztaped, .ref n_isThere, .ref n_size, .ref n_depth, .ref n_memory, .ref n_register, .ref n_mode, .ref n_pc, .ref n_base, .ref n_bound, .ref n_timer, .ref n_ranOut, .ref n_halted, .ref n_steps, .ref n_outs, .ref n_output, .ref n_waits, .ref n_typed, .ref n_disk, .ref n_wants, .int o_zat, .int zend, .int zline, .ref n_labelFrom, .ref n_labelSize, .ref n_labelAddress, .int o_zlabels, .int zfault, .int zfaultLine, .int zisTold, .int o_zaddress, .ref n_made, .int o_zmissing, .int o_zgood, .int o_zvalue, .int o_zvalueFrom, .int o_zvalueSize, .int zme])), (n_tape, .inl (E.2.1 2, 3000, .inl ztape)), (n_wants, .inl (E.2.1 0, 25, .inl zwants)), (n_labelFrom, .inl (E.2.1 0, 100, .inl o_zlabelFrom)), (n_labelSize, .inl (E.2.1 0, 100, .inl o_zlabelSize)), (n_labelAddress, .inl (E.2.1 0, 100, .inl o_zlabelAddress)), (n_made, .inl (E.2.1 0, 1024, .inl o_zmade))]) (BW E A) A) ([.ref n0, .int p1, .int p2] : List Value).toArray s 0 0 A) (F0 m 133 ls []) := by
  intro ztaped zat zend zline zlabels zfault zfaultLine zisTold zaddress zmissing zgood zvalue zvalueFrom zvalueSize zme ztape zwants zlabelFrom zlabelSize zlabelAddress zmade x1 x2 x4 x5 H locs ls h hP hD hS hl
  rw [b_MD_oneLine_133] at h
  refine lv_iconst (v := 0) J.1 J.2.1 d_MD_oneLine_133 (by decide) ?_
  refine lv_istore (lv' := [(6, .int 0), (0, .ref n0), (1, .int x1), (2, .int x2), (4, .int x4), (5, .int x5)]) J.1 J.2.1 d_MD_oneLine_134 hl (by decide) rfl ?_
  clear hl
  intro ls hl
  exact kb_MD_oneLine_136 J hJ hA hZ _ _ _ _ _ _ _ _ _ _ _ _ _ _ _ _ _ _ _ _ _ _ _ _ _ _ _ _ _ h hP hD hS (lv_sub hl [1, 2, 3, 4, 5, 0] rfl)
set_option maxHeartbeats 4000000 in
set_option maxRecDepth 100000 in
theorem kb_MD_oneLine_88 {p : Program} {l : Launch} {e : Env} {s : State} {m : MethodId} {below : List Frame} {meth : Method} {c : Code} {A : Nat → Prop} {E : jz_E} {n0 n_base n_bound n_depth n_disk n_halted n_isThere n_labelAddress n_labelFrom n_labelSize n_made n_memory n_mode n_output n_outs n_pc n_ranOut n_register n_size n_steps n_tape n_timer n_typed n_waits n_wants : Nat} {p1 : Int32} {p2 : Int32} {o_r : Int32} {o_zat : Int32} {o_zlabels : Int32} {o_zaddress : Int32} {o_zmissing : Int32} {o_zgood : Int32} {o_zvalue : Int32} {o_zvalueFrom : Int32} {o_zvalueSize : Int32} {o_zlabelFrom : Nat → Int32} {o_zlabelSize : Nat → Int32} {o_zlabelAddress : Nat → Int32} {o_zmade : Nat → Int32} (J : JC p s m ([.ref n0, .int p1, .int p2] : List Value).toArray meth c c_MD_oneLine 11 (some .int) y_MD_oneLine.cls) (hJ : jE E s) (hA : ∀ q : Nat, s.heap.size ≤ q → A q) (hZ : jz_ok E A s s.heap) : ∀ (ztaped : Int32) (zat : Int32) (zend : Int32) (zline : Int32) (zlabels : Int32) (zfault : Int32) (zfaultLine : Int32) (zisTold : Int32) (zaddress : Int32) (zmissing : Int32) (zgood : Int32) (zvalue : Int32) (zvalueFrom : Int32) (zvalueSize : Int32) (zme : Int32) (ztape : Nat → Int32) (zwants : Nat → Int32) (zlabelFrom : Nat → Int32) (zlabelSize : Nat → Int32) (zlabelAddress : Nat → Int32) (zmade : Nat → Int32) (x1 : Int32) (x2 : Int32) (H : Heap) (locs : List Loc) (ls : Array Slot), b_MD_oneLine_88 zat zend zline zlabels zaddress zmissing zgood zvalueFrom ztape zwants zlabelFrom zlabelSize zlabelAddress zmade x1 x2 = some (o_r, o_zat, o_zlabels, o_zaddress, o_zmissing, o_zgood, o_zvalue, o_zvalueFrom, o_zvalueSize, o_zlabelFrom, o_zlabelSize, o_zlabelAddress, o_zmade) → va_P E.1 classes [(n0, .inr (6, [.ref n_tape, .int ztaped, .ref n_isThere, .ref n_size, .ref n_depth, .ref n_memory, .ref n_register, .ref n_mode, .ref n_pc, .ref n_base, .ref n_bound, .ref n_timer, .ref n_ranOut, .ref n_halted, .ref n_steps, .ref n_outs, .ref n_output, .ref n_waits, .ref n_typed, .ref n_disk, .ref n_wants, .int zat, .int zend, .int zline, .ref n_labelFrom, .ref n_labelSize, .ref n_labelAddress, .int zlabels, .int zfault, .int zfaultLine, .int zisTold, .int zaddress, .ref n_made, .int zmissing, .int zgood, .int zvalue, .int zvalueFrom, .int zvalueSize, .int zme])), (n_tape, .inl (E.2.1 2, 3000, .inl ztape)), (n_wants, .inl (E.2.1 0, 25, .inl zwants)), (n_labelFrom, .inl (E.2.1 0, 100, .inl zlabelFrom)), (n_labelSize, .inl (E.2.1 0, 100, .inl zlabelSize)), (n_labelAddress, .inl (E.2.1 0, 100, .inl zlabelAddress)), (n_made, .inl (E.2.1 0, 1024, .inl zmade))] H → va_D A [(n0, .inr (6, [.ref n_tape, .int ztaped, .ref n_isThere, .ref n_size, .ref n_depth, .ref n_memory, .ref n_register, .ref n_mode, .ref n_pc, .ref n_base, .ref n_bound, .ref n_timer, .ref n_ranOut, .ref n_halted, .ref n_steps, .ref n_outs, .ref n_output, .ref n_waits, .ref n_typed, .ref n_disk, .ref n_wants, .int zat, .int zend, .int zline, .ref n_labelFrom, .ref n_labelSize, .ref n_labelAddress, .int zlabels, .int zfault, .int zfaultLine, .int zisTold, .int zaddress, .ref n_made, .int zmissing, .int zgood, .int zvalue, .int zvalueFrom, .int zvalueSize, .int zme])), (n_tape, .inl (E.2.1 2, 3000, .inl ztape)), (n_wants, .inl (E.2.1 0, 25, .inl zwants)), (n_labelFrom, .inl (E.2.1 0, 100, .inl zlabelFrom)), (n_labelSize, .inl (E.2.1 0, 100, .inl zlabelSize)), (n_labelAddress, .inl (E.2.1 0, 100, .inl zlabelAddress)), (n_made, .inl (E.2.1 0, 1024, .inl zmade))] → va_S A s.heap H locs → lv_has ls 11 [(0, .ref n0), (1, .int x1), (2, .int x2)] → W p l e ({ frames := 3, cells := 0, slots := 0, locals := 64 }) s m ([.ref n0, .int p1, .int p2] : List Value).toArray below meth c H locs 0 0 (MQ below (va_Qi (fun (r' : Int32) (u : va_W) => r' = o_r ∧ u = [(n0, .inr (6, [.ref n_tape, .int ztaped, .ref n_isThere, .ref n_size, .ref n_depth, .ref n_memory, .ref n_register, .ref n_mode, .ref n_pc, .ref n_base, .ref n_bound, .ref n_timer, .ref n_ranOut, .ref n_halted, .ref n_steps, .ref n_outs, .ref n_output, .ref n_waits, .ref n_typed, .ref n_disk, .ref n_wants, .int o_zat, .int zend, .int zline, .ref n_labelFrom, .ref n_labelSize, .ref n_labelAddress, .int o_zlabels, .int zfault, .int zfaultLine, .int zisTold, .int o_zaddress, .ref n_made, .int o_zmissing, .int o_zgood, .int o_zvalue, .int o_zvalueFrom, .int o_zvalueSize, .int zme])), (n_tape, .inl (E.2.1 2, 3000, .inl ztape)), (n_wants, .inl (E.2.1 0, 25, .inl zwants)), (n_labelFrom, .inl (E.2.1 0, 100, .inl o_zlabelFrom)), (n_labelSize, .inl (E.2.1 0, 100, .inl o_zlabelSize)), (n_labelAddress, .inl (E.2.1 0, 100, .inl o_zlabelAddress)), (n_made, .inl (E.2.1 0, 1024, .inl o_zmade))]) (BW E A) A) ([.ref n0, .int p1, .int p2] : List Value).toArray s 0 0 A) (F0 m 88 ls []) := by
  intro ztaped zat zend zline zlabels zfault zfaultLine zisTold zaddress zmissing zgood zvalue zvalueFrom zvalueSize zme ztape zwants zlabelFrom zlabelSize zlabelAddress zmade x1 x2 H locs ls h hP hD hS hl
  rw [b_MD_oneLine_88] at h
  refine lv_aload_n J.1 J.2.1 d_MD_oneLine_88 rfl (lv_at hl 0 rfl) ?_
  replace h := g_bd h
  obtain ⟨zat_56, q_56, h⟩ := h
  have hq := ct_MD_blanks l E n0 n_base n_bound n_depth n_disk n_halted n_isThere n_labelAddress n_labelFrom n_labelSize n_made n_memory n_mode n_output n_outs n_pc n_ranOut n_register n_size n_steps n_tape n_timer n_typed n_waits n_wants H.size ztaped zat zend zline zlabels zfault zfaultLine zisTold zaddress zmissing zgood zvalue zvalueFrom zvalueSize zme ztape zat_56 q_56
  have hr := jrunV (p := p) (e := e) (below := below) (R := ({ frames := 3, cells := 0, slots := 0, locals := 64 })) (cells := 0) (slots := 0) (As := []) (rest := []) J hJ hA hZ hP hD hS hq [0, 1] rfl (by decide) gl_MD_181 gi_MD_blanks gsel_MD_blanks gini_MD gc_MD_blanks hd_MD_blanks ⟨rfl, rfl, Nat.le_of_ble_eq_true rfl, Nat.le_of_ble_eq_true rfl⟩ rfl rfl hl.1 rfl rfl (Nat.le_of_ble_eq_true rfl) d_MD_oneLine_89 ⟨Nat.zero_le _, Nat.zero_le _⟩
  clear hq
  refine jk_v hr hA hP hD hS [0, 1] [2, 3, 4, 5, 6] (WR := [(n_wants, .inl (E.2.1 0, 25, .inl zwants)), (n_labelFrom, .inl (E.2.1 0, 100, .inl zlabelFrom)), (n_labelSize, .inl (E.2.1 0, 100, .inl zlabelSize)), (n_labelAddress, .inl (E.2.1 0, 100, .inl zlabelAddress)), (n_made, .inl (E.2.1 0, 1024, .inl zmade))]) rfl rfl (by decide) (by decide) [5, 6, 0, 1, 2, 3, 4] (WF := [(n0, .inr (6, [.ref n_tape, .int ztaped, .ref n_isThere, .ref n_size, .ref n_depth, .ref n_memory, .ref n_register, .ref n_mode, .ref n_pc, .ref n_base, .ref n_bound, .ref n_timer, .ref n_ranOut, .ref n_halted, .ref n_steps, .ref n_outs, .ref n_output, .ref n_waits, .ref n_typed, .ref n_disk, .ref n_wants, .int zat_56, .int zend, .int zline, .ref n_labelFrom, .ref n_labelSize, .ref n_labelAddress, .int zlabels, .int zfault, .int zfaultLine, .int zisTold, .int zaddress, .ref n_made, .int zmissing, .int zgood, .int zvalue, .int zvalueFrom, .int zvalueSize, .int zme])), (n_tape, .inl (E.2.1 2, 3000, .inl ztape)), (n_wants, .inl (E.2.1 0, 25, .inl zwants)), (n_labelFrom, .inl (E.2.1 0, 100, .inl zlabelFrom)), (n_labelSize, .inl (E.2.1 0, 100, .inl zlabelSize)), (n_labelAddress, .inl (E.2.1 0, 100, .inl zlabelAddress)), (n_made, .inl (E.2.1 0, 1024, .inl zmade))]) rfl (by decide) ?_
  clear hP hD hS
  intro H locs hP hD hS
  clear hr
  refine lv_aload_n J.1 J.2.1 d_MD_oneLine_92 rfl (lv_at hl 0 rfl) ?_
  refine lv_aload_n J.1 J.2.1 d_MD_oneLine_93 rfl (lv_at hl 0 rfl) ?_
  refine jg J hJ hP 0 rfl rfl i_MD 21 (by decide) gf_MD_95 rfl d_MD_oneLine_94 ?_
  replace h := g_bd h
  obtain ⟨r_57, q_57, h⟩ := h
  have hq := ct_MD_nameAt l E n0 n_base n_bound n_depth n_disk n_halted n_isThere n_labelAddress n_labelFrom n_labelSize n_made n_memory n_mode n_output n_outs n_pc n_ranOut n_register n_size n_steps n_tape n_timer n_typed n_waits n_wants H.size ztaped zat_56 zend zline zlabels zfault zfaultLine zisTold zaddress zmissing zgood zvalue zvalueFrom zvalueSize zme ztape zat_56 r_57 q_57
  have hr := jrunV (p := p) (e := e) (below := below) (R := ({ frames := 3, cells := 0, slots := 0, locals := 64 })) (cells := 0) (slots := 0) (As := [.int zat_56]) (rest := []) J hJ hA hZ hP hD hS hq [0, 1] rfl (by decide) gl_MD_201 gi_MD_nameAt gsel_MD_nameAt gini_MD gc_MD_nameAt hd_MD_nameAt ⟨rfl, rfl, Nat.le_of_ble_eq_true rfl, Nat.le_of_ble_eq_true rfl⟩ rfl rfl hl.1 rfl rfl (Nat.le_of_ble_eq_true rfl) d_MD_oneLine_97 ⟨Nat.zero_le _, Nat.zero_le _⟩
  clear hq
  refine jk_i hr hA hP hD hS [0, 1] [2, 3, 4, 5, 6] (WR := [(n_wants, .inl (E.2.1 0, 25, .inl zwants)), (n_labelFrom, .inl (E.2.1 0, 100, .inl zlabelFrom)), (n_labelSize, .inl (E.2.1 0, 100, .inl zlabelSize)), (n_labelAddress, .inl (E.2.1 0, 100, .inl zlabelAddress)), (n_made, .inl (E.2.1 0, 1024, .inl zmade))]) rfl rfl (by decide) (by decide) [5, 6, 0, 1, 2, 3, 4] (WF := [(n0, .inr (6, [.ref n_tape, .int ztaped, .ref n_isThere, .ref n_size, .ref n_depth, .ref n_memory, .ref n_register, .ref n_mode, .ref n_pc, .ref n_base, .ref n_bound, .ref n_timer, .ref n_ranOut, .ref n_halted, .ref n_steps, .ref n_outs, .ref n_output, .ref n_waits, .ref n_typed, .ref n_disk, .ref n_wants, .int zat_56, .int zend, .int zline, .ref n_labelFrom, .ref n_labelSize, .ref n_labelAddress, .int zlabels, .int zfault, .int zfaultLine, .int zisTold, .int zaddress, .ref n_made, .int zmissing, .int zgood, .int zvalue, .int zvalueFrom, .int zvalueSize, .int zme])), (n_tape, .inl (E.2.1 2, 3000, .inl ztape)), (n_wants, .inl (E.2.1 0, 25, .inl zwants)), (n_labelFrom, .inl (E.2.1 0, 100, .inl zlabelFrom)), (n_labelSize, .inl (E.2.1 0, 100, .inl zlabelSize)), (n_labelAddress, .inl (E.2.1 0, 100, .inl zlabelAddress)), (n_made, .inl (E.2.1 0, 1024, .inl zmade))]) rfl (by decide) ?_
  clear hP hD hS
  intro H locs hP hD hS
  clear hr
  refine lv_istore (lv' := [(4, .int r_57), (0, .ref n0), (1, .int x1), (2, .int x2)]) J.1 J.2.1 d_MD_oneLine_100 hl (by decide) rfl ?_
  clear hl
  intro ls hl
  refine lv_aload_n J.1 J.2.1 d_MD_oneLine_102 rfl (lv_at hl 1 rfl) ?_
  refine jg J hJ hP 0 rfl rfl i_MD 21 (by decide) gf_MD_95 rfl d_MD_oneLine_103 ?_
  refine lv_istore (lv' := [(5, .int zat_56), (4, .int r_57), (0, .ref n0), (1, .int x1), (2, .int x2)]) J.1 J.2.1 d_MD_oneLine_106 hl (by decide) rfl ?_
  clear hl
  intro ls hl
  refine lv_iload J.1 J.2.1 d_MD_oneLine_108 (lv_at hl 1 rfl) ?_
  refine lv_if_le (tgt := 133) J.1 J.2.1 d_MD_oneLine_110 (by decide) (fun c_58 => ?_) (fun c_58 => ?_)
  · replace h := g_t c_58 h
    exact kb_MD_oneLine_133 J hJ hA hZ _ _ _ _ _ _ _ _ _ _ _ _ _ _ _ _ _ _ _ _ _ _ _ _ _ _ _ _ h hP hD hS (lv_sub hl [2, 3, 4, 1, 0] rfl)
  · replace h := g_f c_58 h
    refine lv_aload_n J.1 J.2.1 d_MD_oneLine_113 rfl (lv_at hl 2 rfl) ?_
    refine lv_aload_n J.1 J.2.1 d_MD_oneLine_114 rfl (lv_at hl 2 rfl) ?_
    refine jg J hJ hP 0 rfl rfl i_MD 21 (by decide) gf_MD_95 rfl d_MD_oneLine_115 ?_
    refine lv_iload J.1 J.2.1 d_MD_oneLine_118 (lv_at hl 1 rfl) ?_
    refine lv_iadd J.1 J.2.1 d_MD_oneLine_120 ?_
    replace h := g_bd h
    obtain ⟨r_59, q_59, h⟩ := h
    have hq := ct_MD_byteAt l E n0 n_base n_bound n_depth n_disk n_halted n_isThere n_labelAddress n_labelFrom n_labelSize n_made n_memory n_mode n_output n_outs n_pc n_ranOut n_register n_size n_steps n_tape n_timer n_typed n_waits n_wants H.size ztaped zat_56 zend zline zlabels zfault zfaultLine zisTold zaddress zmissing zgood zvalue zvalueFrom zvalueSize zme ztape (zat_56 + r_57) r_59 q_59
    have hr := jrunV (p := p) (e := e) (below := below) (R := ({ frames := 3, cells := 0, slots := 0, locals := 64 })) (cells := 0) (slots := 0) (As := [.int (zat_56 + r_57)]) (rest := []) J hJ hA hZ hP hD hS hq [0, 1] rfl (by decide) gl_MD_98 gi_MD_byteAt gsel_MD_byteAt gini_MD gc_MD_byteAt hd_MD_byteAt ⟨rfl, rfl, Nat.le_of_ble_eq_true rfl, Nat.le_of_ble_eq_true rfl⟩ rfl rfl hl.1 rfl rfl (Nat.le_of_ble_eq_true rfl) d_MD_oneLine_121 ⟨Nat.zero_le _, Nat.zero_le _⟩
    clear hq
    refine jk_i hr hA hP hD hS [0, 1] [2, 3, 4, 5, 6] (WR := [(n_wants, .inl (E.2.1 0, 25, .inl zwants)), (n_labelFrom, .inl (E.2.1 0, 100, .inl zlabelFrom)), (n_labelSize, .inl (E.2.1 0, 100, .inl zlabelSize)), (n_labelAddress, .inl (E.2.1 0, 100, .inl zlabelAddress)), (n_made, .inl (E.2.1 0, 1024, .inl zmade))]) rfl rfl (by decide) (by decide) [5, 6, 0, 1, 2, 3, 4] (WF := [(n0, .inr (6, [.ref n_tape, .int ztaped, .ref n_isThere, .ref n_size, .ref n_depth, .ref n_memory, .ref n_register, .ref n_mode, .ref n_pc, .ref n_base, .ref n_bound, .ref n_timer, .ref n_ranOut, .ref n_halted, .ref n_steps, .ref n_outs, .ref n_output, .ref n_waits, .ref n_typed, .ref n_disk, .ref n_wants, .int zat_56, .int zend, .int zline, .ref n_labelFrom, .ref n_labelSize, .ref n_labelAddress, .int zlabels, .int zfault, .int zfaultLine, .int zisTold, .int zaddress, .ref n_made, .int zmissing, .int zgood, .int zvalue, .int zvalueFrom, .int zvalueSize, .int zme])), (n_tape, .inl (E.2.1 2, 3000, .inl ztape)), (n_wants, .inl (E.2.1 0, 25, .inl zwants)), (n_labelFrom, .inl (E.2.1 0, 100, .inl zlabelFrom)), (n_labelSize, .inl (E.2.1 0, 100, .inl zlabelSize)), (n_labelAddress, .inl (E.2.1 0, 100, .inl zlabelAddress)), (n_made, .inl (E.2.1 0, 1024, .inl zmade))]) rfl (by decide) ?_
    clear hP hD hS
    intro H locs hP hD hS
    clear hr
    refine lv_bipush (v := 58) J.1 J.2.1 d_MD_oneLine_124 (by decide) ?_
    refine lv_icmp_ne (tgt := 133) J.1 J.2.1 d_MD_oneLine_126 (by decide) (fun c_60 => ?_) (fun c_60 => ?_)
    · replace h := g_f c_60 h
      exact kb_MD_oneLine_133 J hJ hA hZ _ _ _ _ _ _ _ _ _ _ _ _ _ _ _ _ _ _ _ _ _ _ _ _ _ _ _ _ h hP hD hS (lv_sub hl [2, 3, 4, 1, 0] rfl)
    · replace h := g_t c_60 h
      refine lv_iconst (v := 1) J.1 J.2.1 d_MD_oneLine_129 (by decide) ?_
      refine lv_goto (tgt := 134) J.1 J.2.1 d_MD_oneLine_130 (by decide) ?_
      refine lv_istore (lv' := [(6, .int 1), (5, .int zat_56), (4, .int r_57), (0, .ref n0), (1, .int x1), (2, .int x2)]) J.1 J.2.1 d_MD_oneLine_134 hl (by decide) rfl ?_
      clear hl
      intro ls hl
      exact kb_MD_oneLine_136 J hJ hA hZ _ _ _ _ _ _ _ _ _ _ _ _ _ _ _ _ _ _ _ _ _ _ _ _ _ _ _ _ _ h hP hD hS (lv_sub hl [3, 4, 5, 2, 1, 0] rfl)
set_option maxHeartbeats 4000000 in
set_option maxRecDepth 100000 in
theorem kb_MD_oneLine_13 {p : Program} {l : Launch} {e : Env} {s : State} {m : MethodId} {below : List Frame} {meth : Method} {c : Code} {A : Nat → Prop} {E : jz_E} {n0 n_base n_bound n_depth n_disk n_halted n_isThere n_labelAddress n_labelFrom n_labelSize n_made n_memory n_mode n_output n_outs n_pc n_ranOut n_register n_size n_steps n_tape n_timer n_typed n_waits n_wants : Nat} {p1 : Int32} {p2 : Int32} {o_r : Int32} {o_zat : Int32} {o_zlabels : Int32} {o_zaddress : Int32} {o_zmissing : Int32} {o_zgood : Int32} {o_zvalue : Int32} {o_zvalueFrom : Int32} {o_zvalueSize : Int32} {o_zlabelFrom : Nat → Int32} {o_zlabelSize : Nat → Int32} {o_zlabelAddress : Nat → Int32} {o_zmade : Nat → Int32} (J : JC p s m ([.ref n0, .int p1, .int p2] : List Value).toArray meth c c_MD_oneLine 11 (some .int) y_MD_oneLine.cls) (hJ : jE E s) (hA : ∀ q : Nat, s.heap.size ≤ q → A q) (hZ : jz_ok E A s s.heap) : ∀ (n : Nat) (ztaped : Int32) (zat : Int32) (zend : Int32) (zline : Int32) (zlabels : Int32) (zfault : Int32) (zfaultLine : Int32) (zisTold : Int32) (zaddress : Int32) (zmissing : Int32) (zgood : Int32) (zvalue : Int32) (zvalueFrom : Int32) (zvalueSize : Int32) (zme : Int32) (ztape : Nat → Int32) (zwants : Nat → Int32) (zlabelFrom : Nat → Int32) (zlabelSize : Nat → Int32) (zlabelAddress : Nat → Int32) (zmade : Nat → Int32) (x1 : Int32) (x2 : Int32) (x4 : Int32) (H : Heap) (locs : List Loc) (ls : Array Slot), b_MD_oneLine_13 n zat zend zline zlabels zaddress zmissing zgood zvalueFrom ztape zwants zlabelFrom zlabelSize zlabelAddress zmade x1 x2 x4 = some (o_r, o_zat, o_zlabels, o_zaddress, o_zmissing, o_zgood, o_zvalue, o_zvalueFrom, o_zvalueSize, o_zlabelFrom, o_zlabelSize, o_zlabelAddress, o_zmade) → va_P E.1 classes [(n0, .inr (6, [.ref n_tape, .int ztaped, .ref n_isThere, .ref n_size, .ref n_depth, .ref n_memory, .ref n_register, .ref n_mode, .ref n_pc, .ref n_base, .ref n_bound, .ref n_timer, .ref n_ranOut, .ref n_halted, .ref n_steps, .ref n_outs, .ref n_output, .ref n_waits, .ref n_typed, .ref n_disk, .ref n_wants, .int zat, .int zend, .int zline, .ref n_labelFrom, .ref n_labelSize, .ref n_labelAddress, .int zlabels, .int zfault, .int zfaultLine, .int zisTold, .int zaddress, .ref n_made, .int zmissing, .int zgood, .int zvalue, .int zvalueFrom, .int zvalueSize, .int zme])), (n_tape, .inl (E.2.1 2, 3000, .inl ztape)), (n_wants, .inl (E.2.1 0, 25, .inl zwants)), (n_labelFrom, .inl (E.2.1 0, 100, .inl zlabelFrom)), (n_labelSize, .inl (E.2.1 0, 100, .inl zlabelSize)), (n_labelAddress, .inl (E.2.1 0, 100, .inl zlabelAddress)), (n_made, .inl (E.2.1 0, 1024, .inl zmade))] H → va_D A [(n0, .inr (6, [.ref n_tape, .int ztaped, .ref n_isThere, .ref n_size, .ref n_depth, .ref n_memory, .ref n_register, .ref n_mode, .ref n_pc, .ref n_base, .ref n_bound, .ref n_timer, .ref n_ranOut, .ref n_halted, .ref n_steps, .ref n_outs, .ref n_output, .ref n_waits, .ref n_typed, .ref n_disk, .ref n_wants, .int zat, .int zend, .int zline, .ref n_labelFrom, .ref n_labelSize, .ref n_labelAddress, .int zlabels, .int zfault, .int zfaultLine, .int zisTold, .int zaddress, .ref n_made, .int zmissing, .int zgood, .int zvalue, .int zvalueFrom, .int zvalueSize, .int zme])), (n_tape, .inl (E.2.1 2, 3000, .inl ztape)), (n_wants, .inl (E.2.1 0, 25, .inl zwants)), (n_labelFrom, .inl (E.2.1 0, 100, .inl zlabelFrom)), (n_labelSize, .inl (E.2.1 0, 100, .inl zlabelSize)), (n_labelAddress, .inl (E.2.1 0, 100, .inl zlabelAddress)), (n_made, .inl (E.2.1 0, 1024, .inl zmade))] → va_S A s.heap H locs → lv_has ls 11 [(0, .ref n0), (1, .int x1), (2, .int x2), (4, .int x4)] → W p l e ({ frames := 3, cells := 0, slots := 0, locals := 64 }) s m ([.ref n0, .int p1, .int p2] : List Value).toArray below meth c H locs 0 0 (MQ below (va_Qi (fun (r' : Int32) (u : va_W) => r' = o_r ∧ u = [(n0, .inr (6, [.ref n_tape, .int ztaped, .ref n_isThere, .ref n_size, .ref n_depth, .ref n_memory, .ref n_register, .ref n_mode, .ref n_pc, .ref n_base, .ref n_bound, .ref n_timer, .ref n_ranOut, .ref n_halted, .ref n_steps, .ref n_outs, .ref n_output, .ref n_waits, .ref n_typed, .ref n_disk, .ref n_wants, .int o_zat, .int zend, .int zline, .ref n_labelFrom, .ref n_labelSize, .ref n_labelAddress, .int o_zlabels, .int zfault, .int zfaultLine, .int zisTold, .int o_zaddress, .ref n_made, .int o_zmissing, .int o_zgood, .int o_zvalue, .int o_zvalueFrom, .int o_zvalueSize, .int zme])), (n_tape, .inl (E.2.1 2, 3000, .inl ztape)), (n_wants, .inl (E.2.1 0, 25, .inl zwants)), (n_labelFrom, .inl (E.2.1 0, 100, .inl o_zlabelFrom)), (n_labelSize, .inl (E.2.1 0, 100, .inl o_zlabelSize)), (n_labelAddress, .inl (E.2.1 0, 100, .inl o_zlabelAddress)), (n_made, .inl (E.2.1 0, 1024, .inl o_zmade))]) (BW E A) A) ([.ref n0, .int p1, .int p2] : List Value).toArray s 0 0 A) (F0 m 13 ls []) := by
  intro n
  induction n with
  | zero => intro ztaped zat zend zline zlabels zfault zfaultLine zisTold zaddress zmissing zgood zvalue zvalueFrom zvalueSize zme ztape zwants zlabelFrom zlabelSize zlabelAddress zmade x1 x2 x4 H locs ls h; cases h
  | succ n ih =>
    intro ztaped zat zend zline zlabels zfault zfaultLine zisTold zaddress zmissing zgood zvalue zvalueFrom zvalueSize zme ztape zwants zlabelFrom zlabelSize zlabelAddress zmade x1 x2 x4 H locs ls h hP hD hS hl
    rw [b_MD_oneLine_13] at h
    refine lv_iload J.1 J.2.1 d_MD_oneLine_13 (lv_at hl 3 rfl) ?_
    refine lv_aload_n J.1 J.2.1 d_MD_oneLine_15 rfl (lv_at hl 0 rfl) ?_
    refine jg J hJ hP 0 rfl rfl i_MD 22 (by decide) gf_MD_92 rfl d_MD_oneLine_16 ?_
    refine lv_icmp_ge (tgt := 88) J.1 J.2.1 d_MD_oneLine_19 (by decide) (fun c_61 => ?_) (fun c_61 => ?_)
    · replace h := g_t c_61 h
      exact kb_MD_oneLine_88 J hJ hA hZ _ _ _ _ _ _ _ _ _ _ _ _ _ _ _ _ _ _ _ _ _ _ _ _ _ _ h hP hD hS (lv_sub hl [0, 1, 2] rfl)
    · replace h := g_f c_61 h
      refine lv_aload_n J.1 J.2.1 d_MD_oneLine_22 rfl (lv_at hl 0 rfl) ?_
      refine jg J hJ hP 0 rfl rfl i_MD 0 (by decide) gf_MD_11 rfl d_MD_oneLine_23 ?_
      refine lv_iload J.1 J.2.1 d_MD_oneLine_26 (lv_at hl 3 rfl) ?_
      replace h := g_ck h
      obtain ⟨k_62, h⟩ := h
      refine va_bald J.1 J.2.1 hJ.1 hP 1 2 rfl rfl k_62 d_MD_oneLine_28 ?_
      refine lv_bipush (v := 10) J.1 J.2.1 d_MD_oneLine_29 (by decide) ?_
      refine lv_icmp_eq (tgt := 88) J.1 J.2.1 d_MD_oneLine_31 (by decide) (fun c_63 => ?_) (fun c_63 => ?_)
      · replace h := g_t c_63 h
        exact kb_MD_oneLine_88 J hJ hA hZ _ _ _ _ _ _ _ _ _ _ _ _ _ _ _ _ _ _ _ _ _ _ _ _ _ _ h hP hD hS (lv_sub hl [0, 1, 2] rfl)
      · replace h := g_f c_63 h
        refine lv_aload_n J.1 J.2.1 d_MD_oneLine_34 rfl (lv_at hl 0 rfl) ?_
        refine lv_aload_n J.1 J.2.1 d_MD_oneLine_35 rfl (lv_at hl 0 rfl) ?_
        refine jg J hJ hP 0 rfl rfl i_MD 34 (by decide) gf_MD_177 rfl d_MD_oneLine_36 ?_
        refine lv_if_eq (tgt := 78) J.1 J.2.1 d_MD_oneLine_39 (by decide) (fun c_64 => ?_) (fun c_64 => ?_)
        · replace h := g_t c_64 h
          refine lv_iconst (v := 0) J.1 J.2.1 d_MD_oneLine_78 (by decide) ?_
          refine jp J hJ hP hD hS 0 rfl rfl i_MD t_MD t_MD_ok n_MD 34 (by decide) gf_MD_177 rfl rfl rfl (Nat.le_of_ble_eq_true rfl) d_MD_oneLine_79 (WS' := [(n0, .inr (6, [.ref n_tape, .int ztaped, .ref n_isThere, .ref n_size, .ref n_depth, .ref n_memory, .ref n_register, .ref n_mode, .ref n_pc, .ref n_base, .ref n_bound, .ref n_timer, .ref n_ranOut, .ref n_halted, .ref n_steps, .ref n_outs, .ref n_output, .ref n_waits, .ref n_typed, .ref n_disk, .ref n_wants, .int zat, .int zend, .int zline, .ref n_labelFrom, .ref n_labelSize, .ref n_labelAddress, .int zlabels, .int zfault, .int zfaultLine, .int zisTold, .int zaddress, .ref n_made, .int zmissing, .int 0, .int zvalue, .int zvalueFrom, .int zvalueSize, .int zme])), (n_tape, .inl (E.2.1 2, 3000, .inl ztape)), (n_wants, .inl (E.2.1 0, 25, .inl zwants)), (n_labelFrom, .inl (E.2.1 0, 100, .inl zlabelFrom)), (n_labelSize, .inl (E.2.1 0, 100, .inl zlabelSize)), (n_labelAddress, .inl (E.2.1 0, 100, .inl zlabelAddress)), (n_made, .inl (E.2.1 0, 1024, .inl zmade))]) rfl ?_
          clear hP hD hS
          intro H locs hP hD hS
          refine lv_iinc (v := (x4 + 1)) (lv' := [(4, .int (x4 + 1)), (0, .ref n0), (1, .int x1), (2, .int x2)]) J.1 J.2.1 d_MD_oneLine_82 hl (k := 3) rfl rfl (by decide) rfl ?_
          clear hl
          intro ls hl
          refine lv_goto (tgt := 13) J.1 J.2.1 d_MD_oneLine_85 (by decide) ?_
          exact ih _ _ _ _ _ _ _ _ _ _ _ _ _ _ _ _ _ _ _ _ _ _ _ _ _ _ _ h hP hD hS (lv_sub hl [1, 2, 3, 0] rfl)
        · replace h := g_f c_64 h
          refine lv_aload_n J.1 J.2.1 d_MD_oneLine_42 rfl (lv_at hl 0 rfl) ?_
          refine jg J hJ hP 0 rfl rfl i_MD 0 (by decide) gf_MD_11 rfl d_MD_oneLine_43 ?_
          refine lv_iload J.1 J.2.1 d_MD_oneLine_46 (lv_at hl 3 rfl) ?_
          replace h := g_ck h
          obtain ⟨k_65, h⟩ := h
          refine va_bald J.1 J.2.1 hJ.1 hP 1 2 rfl rfl k_65 d_MD_oneLine_48 ?_
          refine lv_sipush (v := 255) J.1 J.2.1 d_MD_oneLine_49 (by decide) ?_
          refine lv_iand J.1 J.2.1 d_MD_oneLine_52 ?_
          refine lv_bipush (v := 32) J.1 J.2.1 d_MD_oneLine_53 (by decide) ?_
          refine lv_icmp_lt (tgt := 78) J.1 J.2.1 d_MD_oneLine_55 (by decide) (fun c_66 => ?_) (fun c_66 => ?_)
          · replace h := g_t c_66 h
            refine lv_iconst (v := 0) J.1 J.2.1 d_MD_oneLine_78 (by decide) ?_
            refine jp J hJ hP hD hS 0 rfl rfl i_MD t_MD t_MD_ok n_MD 34 (by decide) gf_MD_177 rfl rfl rfl (Nat.le_of_ble_eq_true rfl) d_MD_oneLine_79 (WS' := [(n0, .inr (6, [.ref n_tape, .int ztaped, .ref n_isThere, .ref n_size, .ref n_depth, .ref n_memory, .ref n_register, .ref n_mode, .ref n_pc, .ref n_base, .ref n_bound, .ref n_timer, .ref n_ranOut, .ref n_halted, .ref n_steps, .ref n_outs, .ref n_output, .ref n_waits, .ref n_typed, .ref n_disk, .ref n_wants, .int zat, .int zend, .int zline, .ref n_labelFrom, .ref n_labelSize, .ref n_labelAddress, .int zlabels, .int zfault, .int zfaultLine, .int zisTold, .int zaddress, .ref n_made, .int zmissing, .int 0, .int zvalue, .int zvalueFrom, .int zvalueSize, .int zme])), (n_tape, .inl (E.2.1 2, 3000, .inl ztape)), (n_wants, .inl (E.2.1 0, 25, .inl zwants)), (n_labelFrom, .inl (E.2.1 0, 100, .inl zlabelFrom)), (n_labelSize, .inl (E.2.1 0, 100, .inl zlabelSize)), (n_labelAddress, .inl (E.2.1 0, 100, .inl zlabelAddress)), (n_made, .inl (E.2.1 0, 1024, .inl zmade))]) rfl ?_
            clear hP hD hS
            intro H locs hP hD hS
            refine lv_iinc (v := (x4 + 1)) (lv' := [(4, .int (x4 + 1)), (0, .ref n0), (1, .int x1), (2, .int x2)]) J.1 J.2.1 d_MD_oneLine_82 hl (k := 3) rfl rfl (by decide) rfl ?_
            clear hl
            intro ls hl
            refine lv_goto (tgt := 13) J.1 J.2.1 d_MD_oneLine_85 (by decide) ?_
            exact ih _ _ _ _ _ _ _ _ _ _ _ _ _ _ _ _ _ _ _ _ _ _ _ _ _ _ _ h hP hD hS (lv_sub hl [1, 2, 3, 0] rfl)
          · replace h := g_f c_66 h
            refine lv_aload_n J.1 J.2.1 d_MD_oneLine_58 rfl (lv_at hl 0 rfl) ?_
            refine jg J hJ hP 0 rfl rfl i_MD 0 (by decide) gf_MD_11 rfl d_MD_oneLine_59 ?_
            refine lv_iload J.1 J.2.1 d_MD_oneLine_62 (lv_at hl 3 rfl) ?_
            replace h := g_ck h
            obtain ⟨k_67, h⟩ := h
            refine va_bald J.1 J.2.1 hJ.1 hP 1 2 rfl rfl k_67 d_MD_oneLine_64 ?_
            refine lv_sipush (v := 255) J.1 J.2.1 d_MD_oneLine_65 (by decide) ?_
            refine lv_iand J.1 J.2.1 d_MD_oneLine_68 ?_
            refine lv_bipush (v := 127) J.1 J.2.1 d_MD_oneLine_69 (by decide) ?_
            refine lv_icmp_ge (tgt := 78) J.1 J.2.1 d_MD_oneLine_71 (by decide) (fun c_68 => ?_) (fun c_68 => ?_)
            · replace h := g_t c_68 h
              refine lv_iconst (v := 0) J.1 J.2.1 d_MD_oneLine_78 (by decide) ?_
              refine jp J hJ hP hD hS 0 rfl rfl i_MD t_MD t_MD_ok n_MD 34 (by decide) gf_MD_177 rfl rfl rfl (Nat.le_of_ble_eq_true rfl) d_MD_oneLine_79 (WS' := [(n0, .inr (6, [.ref n_tape, .int ztaped, .ref n_isThere, .ref n_size, .ref n_depth, .ref n_memory, .ref n_register, .ref n_mode, .ref n_pc, .ref n_base, .ref n_bound, .ref n_timer, .ref n_ranOut, .ref n_halted, .ref n_steps, .ref n_outs, .ref n_output, .ref n_waits, .ref n_typed, .ref n_disk, .ref n_wants, .int zat, .int zend, .int zline, .ref n_labelFrom, .ref n_labelSize, .ref n_labelAddress, .int zlabels, .int zfault, .int zfaultLine, .int zisTold, .int zaddress, .ref n_made, .int zmissing, .int 0, .int zvalue, .int zvalueFrom, .int zvalueSize, .int zme])), (n_tape, .inl (E.2.1 2, 3000, .inl ztape)), (n_wants, .inl (E.2.1 0, 25, .inl zwants)), (n_labelFrom, .inl (E.2.1 0, 100, .inl zlabelFrom)), (n_labelSize, .inl (E.2.1 0, 100, .inl zlabelSize)), (n_labelAddress, .inl (E.2.1 0, 100, .inl zlabelAddress)), (n_made, .inl (E.2.1 0, 1024, .inl zmade))]) rfl ?_
              clear hP hD hS
              intro H locs hP hD hS
              refine lv_iinc (v := (x4 + 1)) (lv' := [(4, .int (x4 + 1)), (0, .ref n0), (1, .int x1), (2, .int x2)]) J.1 J.2.1 d_MD_oneLine_82 hl (k := 3) rfl rfl (by decide) rfl ?_
              clear hl
              intro ls hl
              refine lv_goto (tgt := 13) J.1 J.2.1 d_MD_oneLine_85 (by decide) ?_
              exact ih _ _ _ _ _ _ _ _ _ _ _ _ _ _ _ _ _ _ _ _ _ _ _ _ _ _ _ h hP hD hS (lv_sub hl [1, 2, 3, 0] rfl)
            · replace h := g_f c_68 h
              refine lv_iconst (v := 1) J.1 J.2.1 d_MD_oneLine_74 (by decide) ?_
              refine lv_goto (tgt := 79) J.1 J.2.1 d_MD_oneLine_75 (by decide) ?_
              refine jp J hJ hP hD hS 0 rfl rfl i_MD t_MD t_MD_ok n_MD 34 (by decide) gf_MD_177 rfl rfl rfl (Nat.le_of_ble_eq_true rfl) d_MD_oneLine_79 (WS' := [(n0, .inr (6, [.ref n_tape, .int ztaped, .ref n_isThere, .ref n_size, .ref n_depth, .ref n_memory, .ref n_register, .ref n_mode, .ref n_pc, .ref n_base, .ref n_bound, .ref n_timer, .ref n_ranOut, .ref n_halted, .ref n_steps, .ref n_outs, .ref n_output, .ref n_waits, .ref n_typed, .ref n_disk, .ref n_wants, .int zat, .int zend, .int zline, .ref n_labelFrom, .ref n_labelSize, .ref n_labelAddress, .int zlabels, .int zfault, .int zfaultLine, .int zisTold, .int zaddress, .ref n_made, .int zmissing, .int 1, .int zvalue, .int zvalueFrom, .int zvalueSize, .int zme])), (n_tape, .inl (E.2.1 2, 3000, .inl ztape)), (n_wants, .inl (E.2.1 0, 25, .inl zwants)), (n_labelFrom, .inl (E.2.1 0, 100, .inl zlabelFrom)), (n_labelSize, .inl (E.2.1 0, 100, .inl zlabelSize)), (n_labelAddress, .inl (E.2.1 0, 100, .inl zlabelAddress)), (n_made, .inl (E.2.1 0, 1024, .inl zmade))]) rfl ?_
              clear hP hD hS
              intro H locs hP hD hS
              refine lv_iinc (v := (x4 + 1)) (lv' := [(4, .int (x4 + 1)), (0, .ref n0), (1, .int x1), (2, .int x2)]) J.1 J.2.1 d_MD_oneLine_82 hl (k := 3) rfl rfl (by decide) rfl ?_
              clear hl
              intro ls hl
              refine lv_goto (tgt := 13) J.1 J.2.1 d_MD_oneLine_85 (by decide) ?_
              exact ih _ _ _ _ _ _ _ _ _ _ _ _ _ _ _ _ _ _ _ _ _ _ _ _ _ _ _ h hP hD hS (lv_sub hl [1, 2, 3, 0] rfl)
set_option maxHeartbeats 4000000 in
set_option maxRecDepth 100000 in
theorem ct_MD_oneLine (l : Launch) (E : jz_E) (n0 n_base n_bound n_depth n_disk n_halted n_isThere n_labelAddress n_labelFrom n_labelSize n_made n_memory n_mode n_output n_outs n_pc n_ranOut n_register n_size n_steps n_tape n_timer n_typed n_waits n_wants : Nat) (sz : Nat) (ztaped : Int32) (zat : Int32) (zend : Int32) (zline : Int32) (zlabels : Int32) (zfault : Int32) (zfaultLine : Int32) (zisTold : Int32) (zaddress : Int32) (zmissing : Int32) (zgood : Int32) (zvalue : Int32) (zvalueFrom : Int32) (zvalueSize : Int32) (zme : Int32) (ztape : Nat → Int32) (zwants : Nat → Int32) (zlabelFrom : Nat → Int32) (zlabelSize : Nat → Int32) (zlabelAddress : Nat → Int32) (zmade : Nat → Int32) (p1 : Int32) (p2 : Int32) (o_r : Int32) (o_zat : Int32) (o_zlabels : Int32) (o_zaddress : Int32) (o_zmissing : Int32) (o_zgood : Int32) (o_zvalue : Int32) (o_zvalueFrom : Int32) (o_zvalueSize : Int32) (o_zlabelFrom : Nat → Int32) (o_zlabelSize : Nat → Int32) (o_zlabelAddress : Nat → Int32) (o_zmade : Nat → Int32)  (h : f_MD_oneLine zat zend zline zlabels zaddress zmissing zvalueFrom ztape zwants zlabelFrom zlabelSize zlabelAddress zmade p1 p2 = some (o_r, o_zat, o_zlabels, o_zaddress, o_zmissing, o_zgood, o_zvalue, o_zvalueFrom, o_zvalueSize, o_zlabelFrom, o_zlabelSize, o_zlabelAddress, o_zmade)) : CTi l E y_MD_oneLine c_MD_oneLine 11 (some .int) ({ frames := 3, cells := 0, slots := 0, locals := 64 }) [.ref n0, .int p1, .int p2] [(n0, .inr (6, [.ref n_tape, .int ztaped, .ref n_isThere, .ref n_size, .ref n_depth, .ref n_memory, .ref n_register, .ref n_mode, .ref n_pc, .ref n_base, .ref n_bound, .ref n_timer, .ref n_ranOut, .ref n_halted, .ref n_steps, .ref n_outs, .ref n_output, .ref n_waits, .ref n_typed, .ref n_disk, .ref n_wants, .int zat, .int zend, .int zline, .ref n_labelFrom, .ref n_labelSize, .ref n_labelAddress, .int zlabels, .int zfault, .int zfaultLine, .int zisTold, .int zaddress, .ref n_made, .int zmissing, .int zgood, .int zvalue, .int zvalueFrom, .int zvalueSize, .int zme])), (n_tape, .inl (E.2.1 2, 3000, .inl ztape)), (n_wants, .inl (E.2.1 0, 25, .inl zwants)), (n_labelFrom, .inl (E.2.1 0, 100, .inl zlabelFrom)), (n_labelSize, .inl (E.2.1 0, 100, .inl zlabelSize)), (n_labelAddress, .inl (E.2.1 0, 100, .inl zlabelAddress)), (n_made, .inl (E.2.1 0, 1024, .inl zmade))] sz o_r [(n0, .inr (6, [.ref n_tape, .int ztaped, .ref n_isThere, .ref n_size, .ref n_depth, .ref n_memory, .ref n_register, .ref n_mode, .ref n_pc, .ref n_base, .ref n_bound, .ref n_timer, .ref n_ranOut, .ref n_halted, .ref n_steps, .ref n_outs, .ref n_output, .ref n_waits, .ref n_typed, .ref n_disk, .ref n_wants, .int o_zat, .int zend, .int zline, .ref n_labelFrom, .ref n_labelSize, .ref n_labelAddress, .int o_zlabels, .int zfault, .int zfaultLine, .int zisTold, .int o_zaddress, .ref n_made, .int o_zmissing, .int o_zgood, .int o_zvalue, .int o_zvalueFrom, .int o_zvalueSize, .int zme])), (n_tape, .inl (E.2.1 2, 3000, .inl ztape)), (n_wants, .inl (E.2.1 0, 25, .inl zwants)), (n_labelFrom, .inl (E.2.1 0, 100, .inl o_zlabelFrom)), (n_labelSize, .inl (E.2.1 0, 100, .inl o_zlabelSize)), (n_labelAddress, .inl (E.2.1 0, 100, .inl o_zlabelAddress)), (n_made, .inl (E.2.1 0, 1024, .inl o_zmade))] := by
  refine jw (by decide +kernel) (Nat.le_of_ble_eq_true rfl) ?_
  intro p e s m below meth c A ls J hJ hAe hsz hA hZ hP hD hl
  rw [← hAe]
  have hS : va_S A s.heap s.heap [] := va_S.rf
  have hl : lv_has ls 11 [(0, .ref n0), (1, .int p1), (2, .int p2)] := hl
  unfold f_MD_oneLine at h
  refine lv_aload_n J.1 J.2.1 d_MD_oneLine_0 rfl (lv_at hl 0 rfl) ?_
  refine lv_iconst (v := 1) J.1 J.2.1 d_MD_oneLine_1 (by decide) ?_
  refine jp J hJ hP hD hS 0 rfl rfl i_MD t_MD t_MD_ok n_MD 34 (by decide) gf_MD_177 rfl rfl rfl (Nat.le_of_ble_eq_true rfl) d_MD_oneLine_2 (WS' := [(n0, .inr (6, [.ref n_tape, .int ztaped, .ref n_isThere, .ref n_size, .ref n_depth, .ref n_memory, .ref n_register, .ref n_mode, .ref n_pc, .ref n_base, .ref n_bound, .ref n_timer, .ref n_ranOut, .ref n_halted, .ref n_steps, .ref n_outs, .ref n_output, .ref n_waits, .ref n_typed, .ref n_disk, .ref n_wants, .int zat, .int zend, .int zline, .ref n_labelFrom, .ref n_labelSize, .ref n_labelAddress, .int zlabels, .int zfault, .int zfaultLine, .int zisTold, .int zaddress, .ref n_made, .int zmissing, .int 1, .int zvalue, .int zvalueFrom, .int zvalueSize, .int zme])), (n_tape, .inl (E.2.1 2, 3000, .inl ztape)), (n_wants, .inl (E.2.1 0, 25, .inl zwants)), (n_labelFrom, .inl (E.2.1 0, 100, .inl zlabelFrom)), (n_labelSize, .inl (E.2.1 0, 100, .inl zlabelSize)), (n_labelAddress, .inl (E.2.1 0, 100, .inl zlabelAddress)), (n_made, .inl (E.2.1 0, 1024, .inl zmade))]) rfl ?_
  clear hP hD hS
  intro H locs hP hD hS
  refine lv_aload_n J.1 J.2.1 d_MD_oneLine_5 rfl (lv_at hl 0 rfl) ?_
  refine jg J hJ hP 0 rfl rfl i_MD 21 (by decide) gf_MD_95 rfl d_MD_oneLine_6 ?_
  refine lv_istore_n (lv' := [(3, .int zat), (0, .ref n0), (1, .int p1), (2, .int p2)]) J.1 J.2.1 d_MD_oneLine_9 rfl hl (by decide) rfl ?_
  clear hl
  intro ls hl
  refine lv_iload_n J.1 J.2.1 d_MD_oneLine_10 rfl (lv_at hl 0 rfl) ?_
  refine lv_istore (lv' := [(4, .int zat), (3, .int zat), (0, .ref n0), (1, .int p1), (2, .int p2)]) J.1 J.2.1 d_MD_oneLine_11 hl (by decide) rfl ?_
  clear hl
  intro ls hl
  exact kb_MD_oneLine_13 J hJ hA hZ _ _ _ _ _ _ _ _ _ _ _ _ _ _ _ _ _ _ _ _ _ _ _ _ _ _ _ _ h hP hD hS (lv_sub hl [2, 3, 4, 0] rfl)
